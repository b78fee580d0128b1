/** The edges of questions about motions, wax, voices, weather, logs and seeds (terms 3 and 4). */
public final class MotionEdgesTest extends Edges {
    private static final String AYE = "bench oak 1 1 0 1;";
    private static final String NO = "stool oak 1 1 0 1;";
    /** Carried only if all six matters are in the motion, or only if none is. */
    private static final String ALL_MATTERS = "bench oak 0 18 63 1;";
    private static final String NO_MATTERS = AYE + "stool oak 0 3 63 1;";
    private static final int[] NO_CHAMBERS = {LOW, -2, -1, 1, 2, HIGH};

    private MotionEdgesTest() {
    }

    public static void main(String[] args) {
        carried();
        asTold();
        moves();
        firstMoves();
        waxed();
        turn();
        nearest();
        lobby();
        power();
        parts();
        weather();
        fits();
        sure();
        ask();
        draws();
        drawnDeeds();
        nothingToDrawFrom();
        drawnWax();
        drawn();
        finish("MotionEdgesTest", new int[] {3, 4}, new int[] {11, 12, 13, 14, 15, 16, 17, 18, 20, 21, 22});
    }

    private static void carried() {
        promise(11, "MOTIONS that are CARRIED: how many (k NONE), or the k-th, numbers rising");
        room(AYE);
        due(votes.carried(0, NONE), 64);
        for (int k = 0; k < 64; k++) {
            due(votes.carried(0, k), k);
        }
        room(ALL_MATTERS);
        due(votes.carried(0, NONE), 1);
        due(votes.carried(0, 0), 63);
        room(NO_MATTERS);
        due(votes.carried(0, NONE), 1);
        due(votes.carried(0, 0), 0);
        room("bench oak 0 3 32 1;");
        due(votes.carried(0, NONE), 32);
        due(votes.carried(0, 0), 32);
        due(votes.carried(0, 31), 63);
        room("");
        due(votes.carried(0, NONE), 0);
        promise(11, "NONE: not so many, or there is none such");
        due(votes.carried(0, 0), NONE);
        due(votes.carried(0, 63), NONE);
        room(AYE);
        for (int k : new int[] {LOW, -64, -2, 64, 65, HIGH}) {
            due(votes.carried(0, k), NONE);
        }
        room(ALL_MATTERS);
        due(votes.carried(0, 1), NONE);
        for (int c : NO_CHAMBERS) {
            due(votes.carried(c, NONE), NONE);
            due(votes.carried(c, 0), NONE);
        }
    }

    private static void asTold() {
        term(3, 12, "(Of a CHAMBER as told.)");
        room(NO + AYE + "stands 1;damp 6;", "motion 0;wet;night;wax 1;sit 0 1;");
        for (int round = 0; round < 2; round++) {
            due(votes.moves(0, 0, NONE), NONE);
            due(votes.waxed(0, 0, true, NONE), 1);
            due(votes.waxed(0, 0, true, 0), 0);
            due(votes.turn(0, 0), NONE);
            due(votes.nearest(0, 0), NONE);
            due(votes.lobby(0, 0, 0, false), 0);
            due(votes.lobby(0, 0, 1, false), 1);
            due(votes.weather(0, 0, 0, 0, false), 0);
            due(votes.state(0, 0, 5, 1), 0);
            due(votes.state(0, 0, 5, 21), 1);
            due(votes.drawn(0, 4711, 60, 0) >= 0, true);
        }
    }

    private static void moves() {
        term(3, 12, "MOVES so that a MOTION is CARRIED: the fewest people, 2 at most, who are to sit elsewhere or stand");
        room(AYE);
        due(votes.moves(0, 0, NONE), 0);
        room("");
        due(votes.moves(0, 0, NONE), NONE);
        room("bench oak 0 3 0 1;stands 3;stands 3;stands 3;");
        due(votes.moves(0, 0, NONE), 1);
        room("bench oak 0 6 0 1;stands 3;stands 3;stands 3;");
        due(votes.moves(0, 0, NONE), 2);
        room("bench oak 0 7 0 1;stands 3;stands 3;stands 3;");
        due(votes.moves(0, 0, NONE), NONE);
        room("bench oak 0 6 0 1;stands 3;stands 2;stands 3;");
        due(votes.moves(0, 0, NONE), 2);
        due(votes.moves(0, 0, 1), 8);
        due(votes.moves(0, 0, 2), 0);
        // One who leaves a stool does as well as one who comes to a bench.
        room("stool oak 0 3 0 1;" + AYE + "sits 3 0;");
        due(votes.moves(0, 0, NONE), 1);
        due(votes.moves(0, 0, 0), 1);
        room("stool oak 0 1 0 1;" + AYE + "sits 1 0;sits 1 0;sits 1 0;");
        due(votes.moves(0, 0, NONE), NONE);
        room("stool oak 0 1 0 1;" + AYE + "sits 1 0;sits 1 0;");
        due(votes.moves(0, 0, NONE), 2);
        String fullRoom = "bench oak 0 99 0 1;".repeat(7) + "bench oak 0 6 0 1;";
        room(fullRoom + "stands 1;".repeat(5) + "stands 6;");
        due(votes.moves(0, 0, NONE), 1);
        due(votes.moves(0, 0, 4), 8);
        due(votes.moves(0, 0, 5), 7);
        room(fullRoom + "stands 1;".repeat(4) + "stands 3;stands 3;");
        due(votes.moves(0, 0, NONE), 2);
        due(votes.moves(0, 0, 3), 8);
        due(votes.moves(0, 0, 4), 7);
        due(votes.moves(0, 0, 5), 7);
        room(fullRoom + "stands 2;".repeat(6));
        due(votes.moves(0, 0, NONE), NONE);
        promise(12, "MOVES: how many (k NONE), or where PERSON k sits then");
        room(AYE + "stands 1;stands 2;sits 3 0;stands 4;stands 5;sits 6 0;");
        int[] row = {8, 8, 0, 8, 8, 0};
        due(votes.moves(0, 0, NONE), 0);
        for (int k = 0; k < 6; k++) {
            due(votes.moves(0, 0, k), row[k]);
        }
        promise(12, "NONE: not by 2, another MOTION, or there is none such (of either)");
        for (int k : new int[] {LOW, -2, 6, 7, HIGH}) {
            due(votes.moves(0, 0, k), NONE);
        }
        for (int motion : NO_MOTIONS) {
            due(votes.moves(0, motion, NONE), NONE);
            due(votes.moves(0, motion, 0), NONE);
        }
        for (int c : NO_CHAMBERS) {
            due(votes.moves(c, 0, NONE), NONE);
            due(votes.moves(c, 0, 0), NONE);
        }
        room("bench oak 0 7 0 1;stands 3;stands 3;stands 3;");
        due(votes.moves(0, 0, 0), NONE);
        room(AYE);
        due(votes.moves(0, 0, 0), NONE);
    }

    private static void firstMoves() {
        term(3, 12, "the first row: for each PERSON where he sits then (8: stands), by numbers");
        firstRow("bench oak 0 3 0 1;bench oak 0 3 0 1;stands 3;", 0);
        firstRow("bench oak 0 3 0 1;stands 3;stands 3;", 0, 8);
        firstRow("bench oak 0 4 0 1;stands 3;stands 4;stands 4;", 8, 0, 8);
        // Person 0 could go to bench 2, but the row is less if person 1 goes to bench 0.
        firstRow("bench oak 0 5 0 1;bench oak 0 9 0 1;bench oak 0 3 0 1;sits 3 1;sits 5 1;", 1, 0);
        firstRow("bench oak 0 6 0 1;stands 3;stands 3;stands 3;", 0, 0, 8);
        // Rows are told apart by their first number, even where the next one is the greatest: 0 8 3 comes ahead of 1 0 2.
        firstRow("bench oak 0 3 0 1;bench oak 0 5 0 1;bench oak 0 99 0 1;bench oak 0 4 0 1;" + NO + "stands 5;stands 3;sits 4 2;", 0, 8, 3);
        firstRow("bench oak 0 3 0 1;bench oak 0 3 0 1;stool oak 1 1 0 1;stands 3;stands 3;stands 3;", 0, 1, 8);
        firstRow("stool oak 0 9 0 1;bench oak 0 6 0 1;sits 3 0;sits 3 0;sits 3 0;", 0, 1, 1);
    }

    private static void firstRow(String chamber, int... want) {
        room(chamber);
        for (int k = 0; k < want.length; k++) {
            due(votes.moves(0, 0, k), want[k]);
        }
    }

    private static void waxed() {
        term(3, 13, "WAXED so that a MOTION is CARRIED, or so that it is not: the fewest further WAXES, 3 at most in all (none beyond 9 of a PIECE)");
        int[] ages = {0, 1, 4, 5, 8, 9, 12, 13, 50};
        int[] waxes = {0, 1, 1, 2, 2, 3, 3, NONE, NONE};
        for (int i = 0; i < ages.length; i++) {
            room("bench oak " + ages[i] + " 1 0 1;");
            due(votes.waxed(0, 0, false, NONE), waxes[i]);
            due(votes.waxed(0, 0, true, NONE), ages[i] == 0 ? NONE : 0);
            room(AYE + "stool oak " + ages[i] + " 1 0 1;");
            due(votes.waxed(0, 0, true, NONE), waxes[i]);
            due(votes.waxed(0, 0, false, NONE), ages[i] == 0 ? 1 : 0);
        }
        room("");
        due(votes.waxed(0, 0, true, NONE), NONE);
        due(votes.waxed(0, 0, false, NONE), 0);
        room(AYE + NO.repeat(3));
        due(votes.waxed(0, 0, true, NONE), 3);
        room(AYE + NO.repeat(4));
        due(votes.waxed(0, 0, true, NONE), NONE);
        room(AYE.repeat(8));
        due(votes.waxed(0, 0, false, NONE), NONE);
        room("bench oak 0 1 0 1;".repeat(8));
        due(votes.waxed(0, 0, true, NONE), NONE);
        term(3, 13, "the first row of PIECES, rising (one may come more than once), by numbers");
        waxes("bench oak 12 1 0 1;", 0, 0, 0);
        waxes("bench oak 8 1 0 1;bench oak 4 1 0 1;", 0, 0, 1);
        waxes("bench oak 4 1 0 1;bench oak 8 1 0 1;", 0, 1, 1);
        waxes("bench oak 4 1 0 1;bench oak 4 1 0 1;bench oak 4 1 0 1;", 0, 1, 2);
        waxes(AYE + AYE + NO, 0);
        waxes(AYE + AYE + AYE + NO, 0, 1);
        waxes("bench oak 5 1 0 1;" + AYE + AYE + NO, 1, 2);
        waxes("bench oak 0 1 0 1;".repeat(7) + AYE, 7);
        promise(13, "WAXED so that it is CARRIED (or not): how many (k NONE), or the k-th PIECE");
        waxes("bench oak 9 1 0 1;", 0, 0, 0);
        promise(13, "NONE: not by 3, not so many, another MOTION, or there is none such");
        room("bench oak 9 1 0 1;");
        for (int k : new int[] {LOW, -2, 3, 4, HIGH}) {
            due(votes.waxed(0, 0, false, k), NONE);
            due(votes.waxed(0, 0, true, k), NONE);
        }
        due(votes.waxed(0, 0, true, 0), NONE);
        for (int motion : NO_MOTIONS) {
            due(votes.waxed(0, motion, true, NONE), NONE);
            due(votes.waxed(0, motion, false, 0), NONE);
        }
        for (int c : NO_CHAMBERS) {
            due(votes.waxed(c, 0, true, NONE), NONE);
            due(votes.waxed(c, 0, false, 0), NONE);
        }
        room("bench oak 13 1 0 1;");
        due(votes.waxed(0, 0, false, 0), NONE);
    }

    /** On these pieces wax keeps motion 0 from being carried. */
    private static void waxes(String chamber, int... want) {
        room(chamber);
        due(votes.waxed(0, 0, false, NONE), want.length);
        for (int k = 0; k < want.length; k++) {
            due(votes.waxed(0, 0, false, k), want[k]);
        }
        due(votes.waxed(0, 0, false, want.length), NONE);
    }

    private static void turn() {
        term(3, 14, "TURNS of a MOTION: behind how many nights, 1 .. 40, the fewest, it is CARRIED or not otherwise than now");
        turn("bench oak 0 1 0 1;", 1);
        turn("bench oak 0 40 0 1;", 40);
        turn("bench oak 0 41 0 1;", NONE);
        turn("bench walnut 0 40 0 1;damp 0;", 40);
        turn("bench pine 0 79 0 1;damp 0;", 40);
        turn("bench pine 0 80 0 1;damp 0;", 40);
        turn("bench pine 0 81 0 1;damp 0;", NONE);
        turn("bench pine 50 99 0 1;damp 0;", 25);
        turn("bench oak 0 5 0 1;stool oak 0 10 0 1;", 5);
        turn(AYE + "stool oak 0 1 0 1;", 1);
        turn(AYE + "stool oak 0 40 0 1;", 40);
        turn(AYE + "stool oak 0 41 0 1;", NONE);
        turn(AYE, NONE);
        turn("", NONE);
        promise(14, "TURNS");
        room("bench oak 0 6 1 1;");
        due(votes.turn(0, 0), 6);
        due(votes.turn(0, 1), 3);
        promise(14, "NONE: not in 40 nights, another MOTION, or there is none such");
        turn("bench oak 0 99 0 1;", NONE);
        room("bench oak 0 1 0 1;");
        for (int motion : NO_MOTIONS) {
            due(votes.turn(0, motion), NONE);
        }
        for (int c : NO_CHAMBERS) {
            due(votes.turn(c, 0), NONE);
        }
    }

    private static void turn(String chamber, int want) {
        room(chamber);
        due(votes.turn(0, 0), want);
    }

    private static void nearest() {
        term(3, 15, "NEAREST of a MOTION: the MOTION that is CARRIED of which fewest MATTERS are other than its own, of several the least");
        room(AYE);
        for (int motion = 0; motion < 64; motion++) {
            due(votes.nearest(0, motion), motion);
        }
        room("bench oak 0 3 24 1;");
        due(votes.nearest(0, 0), 8);
        due(votes.nearest(0, 7), 15);
        due(votes.nearest(0, 39), 47);
        due(votes.nearest(0, 16), 16);
        room(AYE + "stool oak 0 3 33 1;");
        due(votes.nearest(0, 63), 30);
        due(votes.nearest(0, 32), 0);
        promise(15, "NEAREST");
        room(ALL_MATTERS);
        due(votes.nearest(0, 0), 63);
        due(votes.nearest(0, 63), 63);
        room(NO_MATTERS);
        due(votes.nearest(0, 63), 0);
        due(votes.nearest(0, 0), 0);
        promise(15, "NONE: none is CARRIED, another MOTION, or there is none such");
        for (int motion : NO_MOTIONS) {
            due(votes.nearest(0, motion), NONE);
        }
        for (int c : NO_CHAMBERS) {
            due(votes.nearest(c, 0), NONE);
        }
        for (String chamber : new String[] {"", NO, AYE + NO}) {
            room(chamber);
            due(votes.nearest(0, 0), NONE);
            due(votes.nearest(0, 63), NONE);
        }
    }

    private static void lobby() {
        term(3, 16, "LOBBY of a MOTION, n, 0 .. 4: two by turns wax one PIECE (WAX below 9) each, or none, n times in all");
        lobbies("bench oak 4 1 0 1;", new int[] {1, 1, 0, 0, 0}, new int[] {-1, 8, -1, -1, -1});
        lobbies("bench oak 0 1 0 1;", new int[] {0, 0, 0, 0, 0}, new int[] {-1, -1, -1, -1, -1});
        lobbies("bench oak 9 1 0 1;", new int[] {1, 1, 1, 1, 1}, new int[] {-1, 0, 0, 0, 8});
        lobbies("", new int[] {0, 0, 0, 0, 0}, new int[] {-1, -1, -1, -1, -1});
        term(3, 16, "the one who begins wants it CARRIED behind all, the other one not: whether it is, if both do as best they can");
        lobbies("bench oak 8 1 0 1;", new int[] {1, 1, 1, 1, 0}, new int[] {-1, 0, 8, 8, -1});
        lobbies("bench oak 50 1 0 1;stool oak 4 1 0 1;", new int[] {0, 1, 1, 1, 1}, new int[] {-1, 1, 1, 0, 0});
        lobbies("bench oak 50 1 0 1;stool oak 8 1 0 1;", new int[] {0, 0, 0, 1, 1}, new int[] {-1, -1, -1, 1, 1});
        lobbies("bench oak 50 1 0 1;stool oak 9 1 0 1;", new int[] {0, 0, 0, 0, 0}, new int[] {-1, -1, -1, -1, -1});
        term(3, 16, "what the first one does first by which it is (the least PIECE; 8: none)");
        lobbies("stool oak 4 1 0 1;stool oak 4 1 0 1;bench oak 50 1 0 2;", new int[] {0, 1, 1, 1, 1}, new int[] {-1, 0, 0, 0, 0});
        lobbies(AYE, new int[] {1, 1, 0, 0, 0}, new int[] {-1, 8, -1, -1, -1});
        lobbies("bench oak 1 1 0 1;".repeat(8), new int[] {1, 1, 1, 1, 1}, new int[] {-1, 0, 0, 0, 0});
        lobbies("bench oak 0 1 0 1;".repeat(8), new int[] {0, 0, 0, 0, 0}, new int[] {-1, -1, -1, -1, -1});
        lobbies("bench oak 0 1 0 1;".repeat(7) + AYE, new int[] {1, 1, 0, 0, 0}, new int[] {-1, 0, -1, -1, -1});
        promise(16, "LOBBY of n: 1 if it is CARRIED, else 0");
        room(ALL_MATTERS);
        due(votes.lobby(0, 63, 0, false), 1);
        due(votes.lobby(0, 62, 0, false), 0);
        due(votes.lobby(0, 63, 2, false), 0);
        promise(16, "or (first) what the first one does first (NONE: it is not, or n is 0)");
        due(votes.lobby(0, 63, 0, true), NONE);
        due(votes.lobby(0, 62, 0, true), NONE);
        due(votes.lobby(0, 63, 1, true), 8);
        due(votes.lobby(0, 62, 1, true), NONE);
        promise(16, "-2: another MOTION, another n, or there is none such");
        for (int n : new int[] {LOW, -2, -1, 5, 6, HIGH}) {
            due(votes.lobby(0, 0, n, false), -2);
            due(votes.lobby(0, 0, n, true), -2);
        }
        for (int motion : NO_MOTIONS) {
            due(votes.lobby(0, motion, 0, false), -2);
            due(votes.lobby(0, motion, 4, true), -2);
        }
        for (int c : NO_CHAMBERS) {
            due(votes.lobby(c, 0, 0, true), -2);
            due(votes.lobby(c, 0, 4, false), -2);
        }
    }

    private static void lobbies(String chamber, int[] ends, int[] firsts) {
        room(chamber);
        for (int n = 0; n <= 4; n++) {
            due(votes.lobby(0, 0, n, false), ends[n]);
            due(votes.lobby(0, 0, n, true), firsts[n]);
        }
    }

    private static String voices(int... voices) {
        StringBuilder text = new StringBuilder();
        for (int number : voices) {
            text.append("bench oak 0 1 0 ").append(number).append(';');
        }
        return text.toString();
    }

    private static void power() {
        term(3, 17, "POWERS: all PIECES vote aye or no by VOICES, aye wins with more than half of all VOICES");
        leastSet(3, 2, 2);
        leastSet(1, 2, 1);
        leastSet(3, 2, 1, 1);
        leastSet(1, 3, 1, 1);
        leastSet(31, 1, 1, 1, 1, 1, 1, 1, 1);
        leastSet(15, 1, 1, 1, 1, 1, 1, 1);
        term(3, 17, "SWINGS of a PIECE: sets of others with which it wins and without it they do not");
        power("", 10);
        power(voices(1), 10, 1);
        power(voices(9, 1), 10, 2, 0);
        power(voices(2, 2), 10, 1, 1);
        power(voices(2, 1, 1), 10, 3, 1, 1);
        power(voices(1, 1, 1), 10, 2, 2, 2);
        power(voices(9, 9, 9, 9, 9, 9, 9, 9), 10, 35, 35, 35, 35, 35, 35, 35, 35);
        power(voices(9, 1, 1, 1, 1, 1, 1, 1), 10, 128, 0, 0, 0, 0, 0, 0, 0);
        power(voices(7, 1, 1, 1, 1, 1, 1, 1), 10, 127, 1, 1, 1, 1, 1, 1, 1);
        term(3, 17, "PART: all come one by one, in all orders alike: in which part of them its coming makes those that came win, a fraction in least terms");
        power(voices(1), 20, 1);
        power(voices(1), 30, 1);
        power(voices(9, 1), 20, 1, 0);
        power(voices(9, 1), 30, 1, 1);
        power(voices(2, 1, 1), 20, 2, 1, 1);
        power(voices(2, 1, 1), 30, 3, 6, 6);
        power(voices(7, 1, 1, 1, 1, 1, 1, 1), 20, 7, 1, 1, 1, 1, 1, 1, 1);
        power(voices(7, 1, 1, 1, 1, 1, 1, 1), 30, 8, 56, 56, 56, 56, 56, 56, 56);
        power(voices(1, 1, 1, 1, 1, 1, 1, 1), 20, 1, 1, 1, 1, 1, 1, 1, 1);
        power(voices(1, 1, 1, 1, 1, 1, 1, 1), 30, 8, 8, 8, 8, 8, 8, 8, 8);
        term(3, 17, "LEAST set: the fewest PIECES (bits; of several the least) that win");
        leastSet(3, 1, 1, 1);
        leastSet(4, 1, 1, 9);
        leastSet(3, 1, 2, 2);
        leastSet(6, 1, 3, 3, 2);
        leastSet(128, 1, 1, 1, 1, 1, 1, 1, 9);
        promise(17, "POWERS, what 0: LEAST set (bits; 0 without PIECES)");
        leastSet(1, 9);
        leastSet(0);
        promise(17, "10 + p: SWINGS of a PIECE");
        power(voices(1, 1, 1, 1, 1, 1, 1, 9), 10, 0, 0, 0, 0, 0, 0, 0, 128);
        // A full room asked ahead leaves nothing behind in a smaller one.
        int[] few = {2, 1, 1};
        for (int pieces = 3; pieces >= 0; pieces--) {
            room(voices(1, 1, 1, 9, 1, 1, 1, 1));
            due(votes.power(0, 13), 128);
            tell(0, voices(java.util.Arrays.copyOf(few, pieces)));
            due(votes.power(0, 10), pieces == 0 ? NONE : pieces == 3 ? 3 : pieces);
            due(votes.power(0, 20), pieces == 0 ? NONE : pieces == 3 ? 2 : 1);
            due(votes.power(0, 30), pieces == 0 ? NONE : pieces == 3 ? 3 : 1);
            due(votes.power(0, 0), pieces == 3 ? 3 : pieces == 0 ? 0 : 1);
        }
        promise(17, "20 + p, 30 + p: PART, N, D");
        power(voices(1, 1, 1, 1, 1, 1, 1, 9), 20, 0, 0, 0, 0, 0, 0, 0, 1);
        power(voices(1, 1, 1, 1, 1, 1, 1, 9), 30, 1, 1, 1, 1, 1, 1, 1, 1);
        promise(17, "NONE: there is none such (of either), or for another what");
        for (int what : new int[] {LOW, -1, 1, 2, 9, 18, 19, 28, 29, 38, 39, 40, 47, HIGH}) {
            due(votes.power(0, what), NONE);
        }
        for (int c : NO_CHAMBERS) {
            due(votes.power(c, 0), NONE);
            due(votes.power(c, 10), NONE);
        }
        room("");
        for (int what : new int[] {10, 20, 30}) {
            due(votes.power(0, what), NONE);
        }
    }

    private static void leastSet(int want, int... voices) {
        room(voices(voices));
        due(votes.power(0, 0), want);
    }

    private static void power(String chamber, int from, int... want) {
        room(chamber);
        for (int p = 0; p <= 9; p++) {
            due(votes.power(0, from + p), p < want.length ? want[p] : NONE);
        }
    }

    /** All orders of eight pieces, one by one. */
    private static void parts() {
        term(3, 17, "in all orders alike");
        int[] voices = {9, 8, 7, 6, 4, 3, 2, 1};
        int[] made = new int[8];
        permute(voices, new int[8], 0, 0, made);
        room(voices(voices));
        for (int p = 0; p < 8; p++) {
            int n = votes.power(0, 20 + p);
            int d = votes.power(0, 30 + p);
            due((long) n * 40320, (long) made[p] * d);
            due(java.math.BigInteger.valueOf(n).gcd(java.math.BigInteger.valueOf(d)).intValue(), 1);
        }
    }

    private static void permute(int[] voices, int[] order, int done, int came, int[] made) {
        if (done == 8) {
            int sum = 0;
            int k = 0;
            while (2 * (sum + voices[order[k]]) <= 40) {
                sum += voices[order[k]];
                k++;
            }
            made[order[k]]++;
            return;
        }
        for (int p = 0; p < 8; p++) {
            if ((came >> p & 1) == 0) {
                order[done] = p;
                permute(voices, order, done + 1, came | 1 << p, made);
            }
        }
    }

    private static void weather() {
        term(3, 18, "WEATHER of n days, 0 .. 9, p of ten, 0 .. 10: each day DAMP is 1 more by p of ten, 9 at most, else 1 less, 0 at least, by itself:"
            + " how likely a MOTION is CARRIED behind n days, a fraction in least terms");
        room("bench walnut 0 9 0 1;damp 0;");
        weather(0, 5, 0, 1);
        weather(8, 10, 0, 1);
        weather(9, 10, 1, 1);
        weather(9, 1, 1, 1000000000L);
        weather(9, 3, 19683, 1000000000L);
        weather(9, 5, 1, 512);
        weather(9, 0, 0, 1);
        room("bench walnut 0 9 0 1;damp 9;");
        weather(0, 5, 1, 1);
        weather(1, 10, 1, 1);
        weather(9, 10, 1, 1);
        weather(1, 1, 1, 10);
        weather(1, 2, 1, 5);
        weather(1, 4, 2, 5);
        weather(1, 5, 1, 2);
        weather(2, 1, 1, 10);
        weather(1, 0, 0, 1);
        room(AYE + "stool walnut 0 1 0 1;damp 0;");
        weather(0, 5, 1, 1);
        weather(1, 0, 1, 1);
        weather(9, 0, 1, 1);
        weather(1, 1, 9, 10);
        weather(2, 5, 1, 2);
        weather(1, 10, 0, 1);
        promise(18, "WEATHER of n, p, N, or (under) D");
        room("bench walnut 0 1 0 1;damp 1;");
        weather(1, 3, 3, 10);
        room(AYE);
        weather(9, 5, 1, 1);
        room("");
        weather(9, 5, 0, 1);
        promise(18, "NONE: other numbers, another MOTION, or there is none such");
        room(AYE);
        for (int n : new int[] {LOW, -1, 10, 11, HIGH}) {
            weather(n, 5, NONE, NONE);
        }
        for (int p : new int[] {LOW, -1, 11, 12, HIGH}) {
            weather(0, p, NONE, NONE);
        }
        for (int motion : NO_MOTIONS) {
            due(votes.weather(0, motion, 1, 5, false), NONE);
            due(votes.weather(0, motion, 1, 5, true), NONE);
        }
        for (int c : NO_CHAMBERS) {
            due(votes.weather(c, 0, 1, 5, false), NONE);
            due(votes.weather(c, 0, 1, 5, true), NONE);
        }
    }

    private static void weather(int n, int p, long over, long under) {
        due(votes.weather(0, 0, n, p, false), over);
        due(votes.weather(0, 0, n, p, true), under);
    }

    private static void fits() {
        term(4, 20, "By a LOG: WOODS and LIMITS, 1 .. 99 (99 times the WOOD's number, and LIMIT less 1) FIT, if in each FACT it SOUNDS or not as told");
        log("still 60 9 6;");
        int[] least = {79, 88, 97};
        due(votes.fits(0, 0), 21 + 12 + 3);
        int k = 0;
        for (int wood = 0; wood < 3; wood++) {
            for (int limit = least[wood]; limit <= 99; limit++) {
                due(votes.fits(0, 10 + k), 99 * wood + limit - 1);
                k++;
            }
        }
        log("sounds 60 9 6;");
        due(votes.fits(0, 0), 78 + 87 + 96);
        due(votes.fits(0, 10), 0);
        due(votes.fits(0, 10 + 77), 77);
        due(votes.fits(0, 10 + 78), 99);
        due(votes.fits(0, 10 + 78 + 87), 198);
        due(votes.fits(0, 10 + 260), 293);
        log("sounds 7 0 0;still 7 0 0;");
        due(votes.fits(0, 0), 0);
        log("sounds 7 0 0;".repeat(7) + "still 6 0 0;");
        due(votes.fits(0, 0), 3);
        term(4, 20, "how many; the k-th, by numbers");
        log("");
        due(votes.fits(0, 0), 297);
        for (int i = 0; i < 297; i++) {
            due(votes.fits(0, 10 + i), i);
        }
        due(votes.fits(0, 10 + 297), -2);
        promise(20, "What 0: how many FIT, 1, 2: SURE of the WOOD, the LIMIT (NONE: not one), 10 + k: the k-th");
        log("sounds 0 9 0;still 9 0 0;still 17 0 0;");
        int[] dues = {1, 2, 18};
        for (int what = 0; what < 3; what++) {
            due(votes.fits(0, what), dues[what]);
        }
        due(votes.fits(0, 10), 99 * 2 + 17);
        promise(20, "-2: there is none such (of either), or for another what");
        for (int what : new int[] {LOW, -10, -1, 3, 4, 9, 11, 12, 307, HIGH}) {
            due(votes.fits(0, what), -2);
        }
        for (int l : NO_CHAMBERS) {
            due(votes.fits(l, 0), -2);
            due(votes.fits(l, 1), -2);
            due(votes.fits(l, 10), -2);
        }
        log("sounds 0 0 0;");
        due(votes.fits(0, 10), -2);
    }

    private static void sure() {
        term(4, 20, "SURE of the WOOD, of the LIMIT: it, if it is one in all");
        sure("", NONE, NONE);
        sure("sounds 0 0 0;", NONE, NONE);
        sure("sounds 1 0 0;", NONE, 1);
        sure("still 60 9 6;still 60 9 6;", NONE, NONE);
        sure("sounds 60 9 0;still 60 0 5;", 2, NONE);
        sure("sounds 60 9 6;still 60 8 6;", NONE, NONE);
        sure("sounds 5 0 0;still 4 0 0;still 0 9 0;", 0, 5);
        sure("sounds 5 1 0;still 4 1 0;", NONE, NONE);
        sure("sounds 0 9 0;", NONE, NONE);
        sure("sounds 0 1 0;still 1 0 0;", 2, 2);
        sure("sounds 0 1 0;still 0 0 0;", NONE, NONE);
    }

    private static void sure(String text, int wood, int limit) {
        log(text);
        due(votes.fits(0, 1), wood);
        due(votes.fits(0, 2), limit);
    }

    private static void ask() {
        term(4, 21, "ASK of a LOAD, 0 .. 60: DAMP and how many MATTERS (10 times DAMP, and these, 0 .. 6), such that of those that FIT the greater number,"
            + " by which it SOUNDS or not, is least; of several the least");
        log("");
        due(votes.ask(0, 0), 96);
        due(votes.ask(0, 48), 10);
        due(votes.ask(0, 49), 0);
        due(votes.ask(0, 60), 0);
        log("sounds 1 0 0;still 0 0 0;");
        due(votes.ask(0, 1), 0);
        due(votes.ask(0, 0), 10);
        log("sounds 0 1 0;still 1 0 0;");
        due(votes.ask(0, 0), 0);
        due(votes.ask(0, 60), 0);
        log("still 60 9 6;");
        // 36 fit; with load 60 oak never sounds, and nothing below 88 for walnut, 97 for pine.
        due(votes.ask(0, 60), 0);
        promise(21, "ASK of a LOAD");
        log("sounds 10 0 0;still 5 0 1;");
        due(votes.ask(0, 9), 0);
        due(votes.ask(0, 0), 3);
        promise(21, "NONE: nothing FITS, another LOAD, or there is none such");
        for (int load : new int[] {LOW, -2, -1, 61, 62, HIGH}) {
            due(votes.ask(0, load), NONE);
        }
        for (int l : NO_CHAMBERS) {
            due(votes.ask(l, 0), NONE);
        }
        log("sounds 0 0 0;");
        due(votes.ask(0, 0), NONE);
        due(votes.ask(0, 60), NONE);
    }

    private static long x;

    /** A number below n, told once more with longs. */
    private static int below(int n) {
        x = (x * 1103515245L + 12345L) & 0xFFFFFFFFL;
        return (int) ((x >> 16) % n);
    }

    private static void draws() {
        term(4, 22, "DRAWN by a SEED, x; a number below n is drawn: x becomes x * 1103515245 + 12345 (of 32 bits), it is x shifted right by 16 without sign,"
            + " remainder by n");
        // Who says AYE tells which motion was drawn: each matter has a bench of its own.
        StringBuilder benches = new StringBuilder();
        for (int matter = 0; matter < 6; matter++) {
            benches.append("bench oak 0 3 ").append(1 << matter).append(" 1;");
        }
        room(benches.toString());
        int[] seeds = {0, 1, -1, 2, -2, 12345, -12345, 1 << 16, -(1 << 16), LOW, HIGH, LOW + 1, HIGH - 1, 0x7FFF0000, 0x55555555};
        for (int seed : seeds) {
            x = seed & 0xFFFFFFFFL;
            boolean motion = below(8) < 2;
            due(votes.drawn(0, seed, 1, 0), motion ? 1 : 0);
            due(votes.drawn(0, seed, 1, 4), motion ? Integer.bitCount(below(64)) : 0);
        }
    }

    private static void drawnDeeds() {
        term(4, 22, "n times, 0 to 60: a number below 8: 0, 1: motion, a number below 64; 2: sit, a PERSON, below PEOPLE, a PIECE, below PIECES; 3: stand, a PERSON;"
            + " 4: wax, 5: set, a PIECE; 6: a number below 2: 0 wet, else dry; 7: night; each, if it may.");
        int[] damps = {0, 5, 9};
        for (int damp : damps) {
            votes = null;
            for (int seed = -60; seed <= 60; seed++) {
                if (seed % 20 == 0) {
                    room("stool oak 1 1 0 1;bench pine 50 99 0 1;sits 1 1;stands 2;damp " + damp + ";");
                }
                drawnOnce(seed, damp);
            }
        }
        room("");
        for (int n : new int[] {0, 1, 59, 60}) {
            due(votes.drawn(0, 7, n, 3), 0);
        }
        due(votes.drawn(0, 7, 0, 0), 0);
    }

    /** One deed drawn in the chamber of two pieces and two people. */
    private static void drawnOnce(int seed, int damp) {
        x = seed & 0xFFFFFFFFL;
        // motions, damp, overs, age 0, age 1, wax 0, wax 1, seat 0, seat 1
        int[] want = {0, damp, 0, 1, 50, 0, 0, 1, 8};
        int[] whats = {0, 2, 3, 10, 11, 20, 21, 40, 41};
        int deed = below(8);
        if (deed <= 1) {
            want[0] = 1;
            want[2] = 1;
        } else if (deed == 2) {
            int person = below(2);
            want[7 + person] = below(2);
        } else if (deed == 3) {
            want[7 + below(2)] = 8;
        } else if (deed == 4) {
            want[5 + below(2)] = 1;
        } else if (deed == 6) {
            want[1] = Math.max(0, Math.min(9, damp + (below(2) == 0 ? 1 : -1)));
        } else if (deed == 7) {
            want[3] = 2;
            want[4] = 52;
        }
        for (int i = 0; i < whats.length; i++) {
            due(votes.drawn(0, seed, 1, whats[i]), want[i]);
        }
    }

    private static void nothingToDrawFrom() {
        term(4, 22, "(Where there are none to draw from, that DEED draws no more, nothing is done.)");
        String[] rooms = {"", "stands 1;".repeat(3), "bench oak 0 99 0 1;".repeat(3)};
        for (int i = 0; i < 3; i++) {
            for (int seed = 1; seed <= 40; seed++) {
                room(rooms[i]);
                drawnWithout(seed, i == 1 ? 3 : 0, i == 2 ? 3 : 0);
            }
        }
    }

    private static void drawnWithout(int seed, int people, int pieces) {
        x = seed;
        int motions = 0;
        int damp = 3;
        for (int i = 0; i < 60; i++) {
            due(votes.drawn(0, seed, i, 0), motions);
            due(votes.drawn(0, seed, i, 2), damp);
            int deed = below(8);
            if (deed <= 1) {
                motions++;
                below(64);
            } else if (deed <= 3 && people > 0 || deed >= 4 && deed <= 5 && pieces > 0) {
                below(deed <= 3 ? people : pieces);
            } else if (deed == 6) {
                damp = Math.max(0, Math.min(9, damp + (below(2) == 0 ? 1 : -1)));
            }
        }
        due(votes.drawn(0, seed, 60, 0), motions);
        due(votes.drawn(0, seed, 60, 2), damp);
    }

    /** Runs in which a piece that has 9 of wax is to be waxed once more. */
    private static void drawnWax() {
        term(4, 22, "each, if it may");
        int found = 0;
        for (int seed = 0; seed < 100000 && found < 20; seed++) {
            x = seed;
            int wax = 0;
            int age = 0;
            boolean full = false;
            for (int i = 0; i < 60; i++) {
                int deed = below(8);
                if (deed <= 1) {
                    below(64);
                } else if (deed == 4) {
                    full = full || wax == 9;
                    wax = Math.min(9, wax + 1);
                } else if (deed == 7) {
                    wax = Math.max(0, wax - 1);
                    age++;
                }
                if (deed >= 4 && deed <= 6) {
                    below(2);
                }
            }
            if (full) {
                found++;
                room("bench oak 0 99 0 1;");
                due(votes.drawn(0, seed, 60, 20), wax);
                due(votes.drawn(0, seed, 60, 10), age);
            }
        }
        due(found, 20);
    }

    private static void drawn() {
        promise(22, "DRAWN, n times, what as state()");
        room("bench oak 50 99 0 1;bench pine 50 99 0 1;" + "sits 30 1;".repeat(6) + "damp 9;", "");
        for (int what = -1; what <= 60; what++) {
            due(votes.drawn(0, HIGH, 0, what), votes.state(0, 0, 0, what));
        }
        promise(22, "-2: there is none such, another n, or for another what");
        for (int n : new int[] {LOW, -2, -1, 61, 62, HIGH}) {
            due(votes.drawn(0, 0, n, 0), -2);
        }
        for (int what : new int[] {LOW, -1, 6, 9, 12, 19, 22, 32, 46, 49, 50, HIGH}) {
            due(votes.drawn(0, 0, 0, what), -2);
            due(votes.drawn(0, 0, 60, what), -2);
        }
        for (int c : NO_CHAMBERS) {
            due(votes.drawn(c, 0, 0, 0), -2);
        }
    }
}
