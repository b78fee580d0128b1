/** The edges of questions about single pieces, people, seats, orders, odds and ways (terms 5 and 6). */
public final class RoomEdgesTest extends Edges {
    private static final String AYE = "bench oak 1 1 0 1;";
    private static final String NO = "stool oak 1 1 0 1;";
    private static final String QUIET = "bench oak 0 99 0 1;";
    /** Carried only if all six matters are in the motion, or only if none is. */
    private static final String ALL_MATTERS = "bench oak 0 18 63 1;";
    private static final String NO_MATTERS = AYE + "stool oak 0 3 63 1;";
    /** As many pieces, people and as much of each as may be. */
    private static final String FULL = "bench pine 50 99 63 9;".repeat(8) + "sits 30 0;".repeat(6) + "damp 9;";
    private static final int[] NO_CHAMBERS = {LOW, -2, -1, 1, 2, HIGH};
    private static final int[] NO_PIECES = {LOW, -2, -1, 1, 2, 8, HIGH};

    private RoomEdgesTest() {
    }

    public static void main(String[] args) {
        asTold();
        hush();
        wake();
        damps();
        tips();
        weighty();
        worded();
        clear();
        greedy();
        agenda();
        odds();
        split();
        vetoIdleAlike();
        weighWrongly();
        falls();
        nays();
        streak();
        afterWrongly();
        bears();
        asToldToo();
        kin();
        trade();
        oaken();
        walk();
        place();
        hinge();
        loudest();
        finish("RoomEdgesTest", new int[] {5, 6},
            new int[] {23, 24, 25, 26, 27, 28, 29, 30, 31, 32, 33, 34, 35, 36, 37, 38, 39, 40, 41});
    }

    private static void asTold() {
        term(5, 23, "(Of a CHAMBER as told.)");
        room("bench walnut 0 3 0 2;stool pine 0 7 0 1;sits 1 1;stands 1;damp 3;",
            "wax 0;wax 1;wet;night;motion 0;sit 1 0;");
        for (int round = 0; round < 2; round++) {
            due(votes.hush(0, 0, 0), 1);
            due(votes.hush(0, 0, 1), 1);
            due(votes.wake(0, 0, 0), 0);
            due(votes.damps(0, 0), 0b1111111000);
            due(votes.tips(0, 0, 1), 3);
            due(votes.weighty(0, 0), 0);
            due(votes.worded(0, 63), 63);
            due(votes.clear(0, NONE), 0);
            due(votes.greedy(0, 0, NONE), 2);
            due(votes.agenda(0, 0, 0, 0, false), 3);
            due(votes.odds(0, 5, false), 1);
            due(votes.weigh(0, 1), 1);
            // What a session and drawn deeds do in the room is not told of the chamber.
            due(votes.stop(0, 0), 6);
            due(votes.state(0, 0, 6, 2), 4);
            due(votes.after(0, 0, 0), 5);
            due(votes.drawn(0, 4711, 60, 0) >= 0, true);
        }
    }

    private static void hush() {
        term(5, 23, "HUSH of a MOTION, a PIECE: the fewest WAXES, 0 .. 9, by which it does not SOUND");
        int[] ages = {0, 1, 4, 5, 8, 9, 12, 13, 32, 33, 36, 37, 50};
        int[] waxes = {0, 1, 1, 2, 2, 3, 3, 4, 8, 9, 9, NONE, NONE};
        for (String kind : new String[] {"bench", "stool", "chair", "table"}) {
            for (int i = 0; i < ages.length; i++) {
                room(kind + " oak " + ages[i] + " 1 0 1;");
                due(votes.hush(0, 0, 0), waxes[i]);
            }
        }
        room("bench oak 50 51 0 1;bench oak 50 50 0 1;bench oak 50 15 0 1;bench oak 50 14 0 1;");
        due(votes.hush(0, 0, 0), 0);
        due(votes.hush(0, 0, 1), 1);
        due(votes.hush(0, 0, 2), 9);
        due(votes.hush(0, 0, 3), NONE);
        room("bench pine 0 7 0 1;bench pine 0 6 0 1;bench pine 0 1 63 1;");
        due(votes.hush(0, 0, 0), 0);
        due(votes.hush(0, 0, 1), 1);
        due(votes.hush(0, 0, 2), 2);
        due(votes.hush(0, 63, 2), 6);
        room("bench oak 0 1 0 1;".repeat(7) + "bench oak 0 30 0 1;sits 30 7;");
        due(votes.hush(0, 63, 7), 1);
        promise(23, "HUSH");
        room("bench oak 0 3 1 1;");
        due(votes.hush(0, 0, 0), 0);
        due(votes.hush(0, 1, 0), 1);
        promise(23, "NONE: by none, another MOTION, or there is none such (of either)");
        room(FULL);
        due(votes.hush(0, 63, 0), NONE);
        due(votes.hush(0, 63, 7), 0);
        due(votes.hush(0, 63, 8), NONE);
        room(AYE);
        for (int motion : NO_MOTIONS) {
            due(votes.hush(0, motion, 0), NONE);
        }
        for (int c : NO_CHAMBERS) {
            due(votes.hush(c, 0, 0), NONE);
        }
        for (int p : NO_PIECES) {
            due(votes.hush(0, 0, p), NONE);
        }
        room("");
        due(votes.hush(0, 0, 0), NONE);
    }

    private static void wake() {
        term(5, 24, "WAKE: the fewest nights, 0 .. 60, behind which it does");
        wake("bench oak 1 1 0 1;", 0);
        wake("bench oak 0 1 0 1;", 1);
        wake("bench oak 0 59 0 1;", 59);
        wake("bench oak 0 60 0 1;", 60);
        wake("bench oak 0 61 0 1;", NONE);
        wake("bench oak 39 99 0 1;", 60);
        wake("bench oak 38 99 0 1;", NONE);
        wake("bench walnut 0 60 0 1;damp 0;", 60);
        wake("bench walnut 0 63 0 1;", 60);
        wake("bench walnut 0 64 0 1;", NONE);
        // Pine grows two years older a night, and no piece older than 99.
        wake("bench pine 0 99 0 1;damp 0;", 50);
        wake("bench pine 0 98 0 1;damp 0;", 49);
        wake("bench pine 50 99 0 1;damp 0;", 25);
        wake("bench pine 0 99 0 1;damp 9;", 41);
        for (String kind : new String[] {"stool", "chair", "table"}) {
            wake(kind + " oak 0 60 0 1;", 60);
            wake(kind + " oak 0 61 0 1;", NONE);
        }
        wake(QUIET.repeat(7) + "bench oak 0 90 0 1;sits 30 7;", NONE);
        due(votes.wake(0, 0, 7), 60);
        promise(24, "WAKE");
        room("bench oak 0 63 1 1;");
        due(votes.wake(0, 1, 0), 60);
        due(votes.wake(0, 0, 0), NONE);
        promise(24, "NONE: not in 60, another MOTION, or there is none such (of either)");
        wake(QUIET, NONE);
        room(AYE);
        for (int motion : NO_MOTIONS) {
            due(votes.wake(0, motion, 0), NONE);
        }
        for (int c : NO_CHAMBERS) {
            due(votes.wake(c, 0, 0), NONE);
        }
        for (int p : NO_PIECES) {
            due(votes.wake(0, 0, p), NONE);
        }
        room(FULL);
        due(votes.wake(0, 63, 7), 7);
        due(votes.wake(0, 63, 8), NONE);
        room("");
        due(votes.wake(0, 0, 0), NONE);
    }

    private static void wake(String chamber, int want) {
        room(chamber);
        due(votes.wake(0, 0, 0), want);
    }

    private static void damps() {
        term(5, 25, "DAMPS: by which DAMPS (bits 0 .. 9) a MOTION is CARRIED");
        for (int damp = 0; damp <= 9; damp++) {
            damps(AYE + "damp " + damp + ";", 1023);
            damps("bench walnut 0 9 0 1;damp " + damp + ";", 512);
            damps("bench walnut 0 5 0 1;stool walnut 0 8 0 1;damp " + damp + ";", 0b0011100000);
        }
        damps("bench walnut 0 1 0 1;", 1022);
        damps("bench pine 0 1 0 1;", 1022);
        damps("bench pine 0 18 0 1;", 512);
        damps("bench pine 0 19 0 1;", 0);
        damps("bench walnut 0 10 0 1;", 0);
        damps(AYE + "stool walnut 0 1 0 1;", 1);
        damps(AYE + "stool pine 0 18 0 1;", 511);
        damps("chair walnut 0 10 0 1;sits 1 0;", 512);
        damps("", 0);
        promise(25, "DAMPS (bits)");
        room("bench walnut 0 4 1 1;");
        due(votes.damps(0, 0), 0b1111110000);
        due(votes.damps(0, 1), 0b1111111110);
        promise(25, "NONE: another MOTION, or there is none such");
        for (int motion : NO_MOTIONS) {
            due(votes.damps(0, motion), NONE);
        }
        for (int c : NO_CHAMBERS) {
            due(votes.damps(c, 0), NONE);
        }
    }

    private static void damps(String chamber, int want) {
        room(chamber);
        due(votes.damps(0, 0), want);
    }

    private static void tips() {
        term(5, 26, "TIPS of a PIECE: the least DAMP by which it, being a STOOL, says NO to a MOTION");
        tips("stool oak 1 1 0 1;damp 9;", 0);
        tips("stool pine 1 1 0 1;damp 9;", 0);
        tips("stool walnut 0 1 0 1;", 1);
        tips("stool walnut 0 9 0 1;damp 0;", 9);
        tips("stool walnut 0 10 0 1;", NONE);
        tips("stool pine 0 1 0 1;", 1);
        tips("stool pine 0 2 0 1;", 1);
        tips("stool pine 0 3 0 1;", 2);
        tips("stool pine 0 17 0 1;", 9);
        tips("stool pine 0 18 0 1;", 9);
        tips("stool pine 0 19 0 1;", NONE);
        tips("stool oak 0 1 0 1;damp 9;", NONE);
        room(QUIET.repeat(7) + "stool walnut 0 39 0 1;sits 30 7;");
        due(votes.tips(0, 0, 7), 9);
        due(votes.tips(0, 0, 8), NONE);
        promise(26, "TIPS");
        room("stool walnut 0 6 1 1;");
        due(votes.tips(0, 0, 0), 6);
        due(votes.tips(0, 1, 0), 3);
        promise(26, "NONE: by none, it is no STOOL, another MOTION, or there is none such (of either)");
        tips("stool pine 0 99 0 1;", NONE);
        tips("bench walnut 0 1 0 1;", NONE);
        tips("chair walnut 0 9 0 1;sits 1 0;", NONE);
        tips("table walnut 0 1 0 1;", NONE);
        room(AYE + "table oak 1 1 0 1;");
        due(votes.answer(0, 0, 21), 2);
        due(votes.tips(0, 0, 1), NONE);
        room(NO);
        for (int motion : NO_MOTIONS) {
            due(votes.tips(0, motion, 0), NONE);
        }
        for (int c : NO_CHAMBERS) {
            due(votes.tips(c, 0, 0), NONE);
        }
        for (int p : NO_PIECES) {
            due(votes.tips(0, 0, p), NONE);
        }
        room("");
        due(votes.tips(0, 0, 0), NONE);
    }

    private static void tips(String chamber, int want) {
        room(chamber);
        due(votes.tips(0, 0, 0), want);
    }

    private static void weighty() {
        term(5, 27, "WEIGHTY: PEOPLE (bits) by each of whose standing alone a MOTION is CARRIED or not otherwise than now");
        weighty("bench oak 0 3 0 1;sits 3 0;", 1);
        weighty("bench oak 0 3 0 1;sits 1 0;sits 2 0;", 3);
        weighty("bench oak 0 3 0 1;sits 3 0;sits 3 0;", 0);
        weighty("bench oak 0 3 0 1;sits 1 0;sits 3 0;", 2);
        weighty("bench oak 0 21 0 1;sits 1 0;sits 2 0;sits 3 0;sits 4 0;sits 5 0;sits 6 0;", 63);
        weighty("bench oak 0 3 0 1;" + "stands 30;".repeat(5) + "sits 3 0;", 32);
        weighty("bench oak 0 4 0 1;sits 3 0;", 0);
        weighty(AYE + "stool oak 0 3 0 1;sits 3 1;", 1);
        weighty(AYE + "chair oak 0 9 0 1;sits 3 1;", 1);
        weighty(AYE + "chair oak 0 9 0 1;sits 3 1;sits 3 1;", 0);
        weighty(AYE + "stands 1;", 0);
        weighty("stands 30;".repeat(6), 0);
        weighty(AYE, 0);
        weighty("", 0);
        promise(27, "WEIGHTY (bits)");
        room("bench oak 0 6 1 1;sits 3 0;sits 4 0;");
        due(votes.weighty(0, 0), 3);
        due(votes.weighty(0, 1), 0);
        promise(27, "NONE: another MOTION, or there is none such");
        for (int motion : NO_MOTIONS) {
            due(votes.weighty(0, motion), NONE);
        }
        for (int c : NO_CHAMBERS) {
            due(votes.weighty(c, 0), NONE);
        }
    }

    private static void weighty(String chamber, int want) {
        room(chamber);
        due(votes.weighty(0, 0), want);
    }

    private static void worded() {
        term(5, 28, "WORDED of some MATTERS: the MOTION that has them all and is CARRIED, with fewest MATTERS, of several the least");
        room(AYE);
        for (int matters = 0; matters < 64; matters++) {
            due(votes.worded(0, matters), matters);
        }
        room(ALL_MATTERS);
        for (int matters = 0; matters < 64; matters++) {
            due(votes.worded(0, matters), 63);
        }
        room("bench oak 0 3 24 1;");
        due(votes.worded(0, 0), 8);
        due(votes.worded(0, 7), 15);
        due(votes.worded(0, 16), 16);
        due(votes.worded(0, 32), 40);
        due(votes.worded(0, 63), 63);
        // 3 is a lesser number than 32, but has more matters.
        room("bench oak 0 6 7 1;bench oak 0 3 32 1;");
        due(votes.worded(0, 0), 32);
        due(votes.worded(0, 1), 3);
        due(votes.worded(0, 4), 5);
        promise(28, "WORDED");
        room("bench oak 0 15 62 1;");
        due(votes.worded(0, 0), 62);
        due(votes.worded(0, 1), 63);
        promise(28, "NONE: none is CARRIED, other MATTERS (0 .. 63), or there is none such");
        for (int matters : NO_MOTIONS) {
            due(votes.worded(0, matters), NONE);
        }
        for (int c : NO_CHAMBERS) {
            due(votes.worded(c, 0), NONE);
        }
        room(NO_MATTERS);
        due(votes.worded(0, 0), 0);
        for (int matters = 1; matters < 64; matters++) {
            due(votes.worded(0, matters), NONE);
        }
        for (String chamber : new String[] {"", NO, AYE + NO, QUIET}) {
            room(chamber);
            due(votes.worded(0, 0), NONE);
            due(votes.worded(0, 63), NONE);
        }
    }

    private static void clear() {
        term(5, 29, "CLEAR: MOTIONS to which somebody says AYE and nobody NO: how many; the k-th, numbers rising");
        room(AYE);
        for (int k = 0; k < 64; k++) {
            due(votes.clear(0, k), k);
        }
        room("bench oak 0 3 32 1;");
        due(votes.clear(0, NONE), 32);
        for (int k = 0; k < 32; k++) {
            due(votes.clear(0, k), 32 + k);
        }
        // Two voices against one are enough to carry a motion, but it is not clear then.
        clears("bench oak 1 1 0 2;" + NO, 0);
        due(votes.carried(0, NONE), 64);
        clears("bench oak 1 1 0 2;stool oak 0 3 1 1;", 32);
        due(votes.clear(0, 0), 0);
        due(votes.clear(0, 31), 62);
        clears(AYE + "table oak 0 1 0 1;", 0);
        clears("table oak 0 1 0 1;" + AYE, 64);
        clears(AYE + "chair oak 0 9 0 1;", 64);
        clears(AYE + "chair oak 0 9 0 1;sits 8 1;", 0);
        clears(AYE + "chair oak 0 9 0 1;sits 9 1;", 64);
        clears(NO, 0);
        clears(QUIET, 0);
        promise(29, "CLEAR: how many (k NONE), or the k-th");
        clears(AYE, 64);
        clears("", 0);
        clears(NO_MATTERS, 1);
        due(votes.clear(0, 0), 0);
        clears(ALL_MATTERS, 1);
        due(votes.clear(0, 0), 63);
        promise(29, "NONE: not so many, or there is none such");
        due(votes.clear(0, 1), NONE);
        for (int c : NO_CHAMBERS) {
            due(votes.clear(c, NONE), NONE);
            due(votes.clear(c, 0), NONE);
        }
        room(AYE);
        for (int k : new int[] {LOW, -64, -2, 64, 65, HIGH}) {
            due(votes.clear(0, k), NONE);
        }
        room("");
        due(votes.clear(0, 0), NONE);
    }

    private static void clears(String chamber, int want) {
        room(chamber);
        due(votes.clear(0, NONE), want);
    }

    private static void greedy() {
        term(5, 30, "GREEDY of a MOTION: all stand up first; then PEOPLE by numbers, one behind the other,"
            + " each sit where AYES less NOES (VOICES) are most then, or stay standing");
        greedy("bench oak 0 3 0 1;sits 3 0;", 1, 0);
        greedy("stool oak 0 1 0 1;stands 1;", 0, 8);
        greedy("stool oak 0 1 0 1;" + "sits 1 0;".repeat(6), 0, 8, 8, 8, 8, 8, 8);
        greedy("stool oak 0 6 0 1;sits 3 0;sits 3 0;", 0, 0, 8);
        greedy("bench oak 0 3 0 1;bench oak 0 3 0 2;stands 3;stands 3;", 3, 1, 0);
        // The bench of nine voices would need both, but the first one goes where he gains something by himself.
        greedy("bench oak 0 3 0 1;bench oak 0 6 0 9;stands 3;stands 3;", 1, 0, 0);
        greedy("chair oak 0 3 0 1;stands 2;stands 1;", 0, 8, 8);
        greedy("chair oak 0 3 0 1;stands 2;stands 3;stands 2;", 1, 8, 0, 0);
        greedy("stool oak 1 1 0 1;table oak 0 9 0 3;stands 1;", 2, 0);
        term(5, 30, "of several the least seat (8: stands)");
        greedy(QUIET + "stands 1;", 0, 0);
        greedy(QUIET + QUIET + "sits 1 1;sits 1 1;", 0, 0, 0);
        greedy("bench oak 0 9 0 1;bench oak 0 3 0 1;bench oak 0 3 0 1;stands 3;", 1, 1);
        greedy("stool oak 0 1 0 1;" + QUIET + "sits 1 0;", 0, 1);
        greedy("stool oak 0 1 0 1;".repeat(8) + "sits 1 7;", 0, 8);
        greedy("stool oak 0 1 0 1;".repeat(7) + "bench oak 0 99 0 1;sits 1 0;", 0, 7);
        term(5, 30, "AYES less NOES behind all; who sits where");
        greedy("bench oak 1 1 0 9;".repeat(8) + "stands 1;".repeat(6), 72, 0, 0, 0, 0, 0, 0);
        greedy("stool oak 1 1 0 9;".repeat(8) + "stands 1;".repeat(6), -72, 0, 0, 0, 0, 0, 0);
        greedy("stands 1;".repeat(6), 0, 8, 8, 8, 8, 8, 8);
        greedy("", 0);
        promise(30, "GREEDY: AYES less NOES (k NONE), or where PERSON k sits");
        room("bench oak 0 3 1 1;");
        due(votes.greedy(0, 0, NONE), 0);
        due(votes.greedy(0, 1, NONE), 1);
        greedy(NO, -1);
        promise(30, "-1000: another MOTION, or there is none such (of either)");
        room(AYE + "stands 1;");
        for (int motion : NO_MOTIONS) {
            due(votes.greedy(0, motion, NONE), -1000);
            due(votes.greedy(0, motion, 0), -1000);
        }
        for (int c : NO_CHAMBERS) {
            due(votes.greedy(c, 0, NONE), -1000);
            due(votes.greedy(c, 0, 0), -1000);
        }
        for (int k : new int[] {LOW, -1000, -2, 1, 2, 6, 8, HIGH}) {
            due(votes.greedy(0, 0, k), -1000);
        }
        room("");
        due(votes.greedy(0, 0, 0), -1000);
        room(FULL);
        due(votes.greedy(0, 0, 5), 0);
        due(votes.greedy(0, 63, 5), 5);
        due(votes.greedy(0, 63, 6), -1000);
    }

    private static void greedy(String chamber, int want, int... seats) {
        room(chamber);
        due(votes.greedy(0, 0, NONE), want);
        for (int k = 0; k < seats.length; k++) {
            due(votes.greedy(0, 0, k), seats[k]);
        }
        due(votes.greedy(0, 0, seats.length), -1000);
    }

    private static void agenda() {
        term(5, 31, "AGENDA of three MOTIONS: they are put one behind the other, as in a SESSION, in that order in which most are CARRIED: how many");
        // 4 tips stool 2, which keeps 2 from being carried; 2 tips stool 1, which keeps 1 from being carried.
        String chain = AYE + "stool oak 0 3 3 2;stool oak 0 3 6 5;bench oak 0 3 2 2;bench oak 0 3 4 5;";
        room(chain, "motion 1;motion 2;motion 4;");
        due(votes.state(0, 0, 3, 1), 1);
        due(votes.agenda(0, 1, 2, 4, false), 3);
        due(votes.agenda(0, 1, 1, 1, false), 2);
        due(votes.agenda(0, 2, 2, 2, false), 2);
        due(votes.agenda(0, 2, 2, 1, false), 2);
        // Who sits on the stool stands when it goes over, and sits nowhere then.
        agenda("stool oak 0 1 0 2;" + AYE + "sits 1 0;", 0, 0, 0, 2, 12);
        agenda(NO, 0, 1, 2, 0, 12);
        agenda(AYE, 0, 0, 0, 3, 12);
        agenda("", 63, 63, 63, 0, 12);
        term(5, 31, "the order (100 times which of them is put first, 0, 1, 2 as asked, 10 times which second, and which third), the least");
        agenda(chain, 4, 2, 1, 3, 12);
        agenda(chain, 4, 1, 2, 3, 21);
        agenda(chain, 2, 4, 1, 3, 102);
        agenda(chain, 1, 4, 2, 3, 120);
        agenda(chain, 2, 1, 4, 3, 201);
        agenda(chain, 1, 2, 4, 3, 210);
        agenda(chain, 4, 0, 2, 3, 12);
        agenda(chain, 0, 2, 4, 3, 21);
        agenda(chain, 2, 4, 0, 3, 102);
        agenda(chain, 2, 2, 4, 3, 201);
        agenda(chain, 1, 1, 1, 2, 12);
        promise(31, "AGENDA: how many, or (order) the order");
        agenda(ALL_MATTERS, 63, 0, 62, 1, 12);
        agenda(ALL_MATTERS, 0, 62, 63, 1, 12);
        agenda(ALL_MATTERS, 63, 63, 63, 3, 12);
        promise(31, "NONE: other MOTIONS, or there is none such");
        room(AYE);
        for (int motion : NO_MOTIONS) {
            for (int order = 0; order < 2; order++) {
                due(votes.agenda(0, motion, 0, 0, order == 1), NONE);
                due(votes.agenda(0, 0, motion, 0, order == 1), NONE);
                due(votes.agenda(0, 0, 0, motion, order == 1), NONE);
                due(votes.agenda(0, motion, motion, motion, order == 1), NONE);
            }
        }
        for (int c : NO_CHAMBERS) {
            due(votes.agenda(c, 0, 0, 0, false), NONE);
            due(votes.agenda(c, 0, 0, 0, true), NONE);
        }
    }

    private static void agenda(String chamber, int a, int b, int c, int many, int order) {
        room(chamber);
        due(votes.agenda(0, a, b, c, false), many);
        due(votes.agenda(0, a, b, c, true), order);
    }

    private static void odds() {
        term(5, 32, "ODDS of p of ten, 0 .. 10: each of six MATTERS is in the MOTION by p of ten, by itself: how likely it is CARRIED, a fraction in least terms");
        room(ALL_MATTERS);
        long[] over = {0, 1, 1, 729, 64, 1, 729, 117649, 4096, 531441, 1};
        long[] under = {1, 1000000, 15625, 1000000, 15625, 64, 15625, 1000000, 15625, 1000000, 1};
        for (int p = 0; p <= 10; p++) {
            odds(p, over[p], under[p]);
        }
        room(NO_MATTERS);
        for (int p = 0; p <= 10; p++) {
            odds(p, over[10 - p], under[10 - p]);
        }
        room("bench oak 0 3 32 1;");
        odds(0, 0, 1);
        odds(1, 1, 10);
        odds(5, 1, 2);
        odds(6, 3, 5);
        odds(10, 1, 1);
        room("bench oak 0 3 9 1;");
        odds(1, 19, 100);
        odds(5, 3, 4);
        odds(9, 99, 100);
        promise(32, "ODDS, N, or (under) D");
        room(AYE);
        for (int p = 0; p <= 10; p++) {
            odds(p, 1, 1);
        }
        room("");
        for (int p = 0; p <= 10; p++) {
            odds(p, 0, 1);
        }
        promise(32, "NONE: another p, or there is none such");
        room(AYE);
        for (int p : new int[] {LOW, -2, -1, 11, 12, HIGH}) {
            odds(p, NONE, NONE);
        }
        for (int c : NO_CHAMBERS) {
            due(votes.odds(c, 5, false), NONE);
            due(votes.odds(c, 5, true), NONE);
        }
    }

    private static void odds(int p, long over, long under) {
        due(votes.odds(0, p, false), over);
        due(votes.odds(0, p, true), under);
    }

    /** What weigh() answers of benches with these voices. */
    private static void weigh(int what, int want, int... voices) {
        StringBuilder text = new StringBuilder();
        for (int number : voices) {
            text.append("bench oak 0 1 0 ").append(number).append(';');
        }
        room(text.toString());
        due(votes.weigh(0, what), want);
    }

    private static void split() {
        term(5, 33, "POWERS: SPLIT: the set of PIECES (bits) whose VOICES and all others' differ least, of several the least; how much");
        split(0, 0);
        split(0, 1, 1);
        split(0, 9, 9);
        split(1, 0, 1, 1);
        split(1, 8, 9, 1);
        split(1, 8, 1, 9);
        split(3, 0, 1, 2, 3);
        split(1, 0, 3, 1, 2);
        split(2, 0, 1, 3, 2);
        split(1, 1, 1, 1, 1);
        split(15, 0, 9, 9, 9, 9, 9, 9, 9, 9);
        split(7, 9, 9, 9, 9, 9, 9, 9, 9);
        split(127, 2, 1, 1, 1, 1, 1, 1, 1, 9);
        split(1, 2, 9, 1, 1, 1, 1, 1, 1, 1);
        promise(33, "What 0: SPLIT, the set, 1: how much");
        split(1, 1, 4, 1, 2);
    }

    private static void split(int set, int much, int... voices) {
        weigh(0, set, voices);
        due(votes.weigh(0, 1), much);
    }

    private static void vetoIdleAlike() {
        term(5, 33, "VETO: PIECES (bits) that are in every set that wins (none without PIECES)");
        weigh(2, 0);
        weigh(2, 1, 1);
        weigh(2, 1, 9, 1);
        weigh(2, 2, 1, 9);
        weigh(2, 3, 2, 2);
        weigh(2, 1, 2, 1, 1);
        weigh(2, 0, 1, 1, 1);
        weigh(2, 0, 9, 9, 9, 9, 9, 9, 9, 9);
        weigh(2, 128, 1, 1, 1, 1, 1, 1, 1, 7);
        weigh(2, 0, 1, 1, 1, 1, 1, 1, 1, 6);
        term(5, 33, "IDLE: those whose SWINGS are none");
        weigh(3, 0);
        weigh(3, 0, 1);
        weigh(3, 2, 9, 1);
        weigh(3, 0, 1, 1, 1);
        weigh(3, 254, 9, 1, 1, 1, 1, 1, 1, 1);
        weigh(3, 0, 7, 1, 1, 1, 1, 1, 1, 1);
        weigh(3, 0, 2, 2, 1, 2, 2);
        weigh(3, 4, 2, 2, 1, 2);
        weigh(3, 4, 3, 3, 1, 3);
        term(5, 33, "ALIKE: couples of PIECES of as many SWINGS and of unlike VOICES, how many");
        weigh(4, 0);
        weigh(4, 0, 1);
        weigh(4, 0, 1, 1);
        weigh(4, 0, 1, 9);
        weigh(4, 1, 9, 1, 2);
        weigh(4, 2, 2, 2, 1);
        weigh(4, 3, 9, 1, 2, 3);
        weigh(4, 0, 9, 1, 1, 1, 1, 1, 1, 1);
        weigh(4, 5, 9, 1, 1, 1, 1, 1, 2);
        weigh(4, 6, 9, 1, 1, 1, 1, 1, 1, 2);
        weigh(4, 0, 9, 9, 9, 9, 9, 9, 9, 9);
        promise(33, "2: VETO, 3: IDLE (bits), 4: ALIKE");
        weigh(2, 4, 1, 2, 8);
        due(votes.weigh(0, 3), 3);
        due(votes.weigh(0, 4), 1);
    }

    private static void weighWrongly() {
        promise(33, "NONE: there is none such, or for another what");
        for (String chamber : new String[] {"", AYE, FULL}) {
            room(chamber);
            for (int what : new int[] {LOW, -2, -1, 5, 6, 10, 20, HIGH}) {
                due(votes.weigh(0, what), NONE);
            }
            for (int c : NO_CHAMBERS) {
                for (int what = 0; what <= 4; what++) {
                    due(votes.weigh(c, what), NONE);
                }
            }
        }
    }

    private static void after(int what, int want, String chamber, String deeds) {
        room(chamber, deeds);
        due(votes.after(0, 0, what), want);
    }

    private static void falls() {
        term(5, 34, "Of a SESSION in a CHAMBER, behind all DEEDS up to STOP: FALLS: the least n of a STATE in which any PIECE is OVER");
        after(0, 1, NO, "motion 0;");
        after(0, 1, NO, "motion 0;set 0;motion 0;");
        after(0, 2, NO, "wet;motion 0;set 0;");
        after(0, NONE, NO, "wet;");
        after(0, NONE, NO, "");
        after(0, NONE, AYE, "motion 0;");
        after(0, 2, AYE + "stool oak 0 3 1 1;", "motion 0;motion 1;");
        after(0, 40, NO, "wet;dry;".repeat(19) + "wet;motion 0;");
        after(0, NONE, NO, "wet;dry;".repeat(20));
        // Behind the first deed that can't be nothing happens any more.
        after(0, NONE, NO, "stand 0;motion 0;");
        after(0, NONE, NO, "set 0;motion 0;");
        after(0, 1, NO, "motion 0;set 1;motion 0;");
        after(0, NONE, "", "motion 0;");
        promise(34, "What 0: FALLS (NONE: in no STATE)");
        after(0, 3, QUIET.repeat(7) + "stool oak 0 2 0 1;", "night;night;motion 0;");
        after(0, NONE, QUIET.repeat(7) + "stool oak 0 2 0 1;", "night;motion 0;night;");
    }

    private static void nays() {
        term(5, 34, "NAYS: the PIECE that said NO most often, of several the least (none)");
        after(1, NONE, NO, "");
        after(1, NONE, AYE, "motion 0;");
        after(1, NONE, "", "motion 0;");
        after(1, 0, NO, "motion 0;");
        after(1, 0, NO + NO, "motion 0;");
        after(1, 1, AYE + NO + NO, "motion 0;motion 0;");
        after(1, 1, NO + "chair oak 0 99 0 1;sits 1 1;", "motion 0;motion 0;");
        after(1, 0, NO + "chair oak 0 99 0 1;sits 1 1;", "motion 0;set 0;motion 0;");
        after(1, 1, AYE + "table oak 0 1 0 1;", "motion 0;".repeat(40));
        after(1, 7, QUIET.repeat(7) + NO, "motion 0;");
        // What it would say behind the stop does not count.
        after(1, 0, NO + "chair oak 0 99 0 1;sits 1 1;", "motion 0;stand 1;motion 0;");
        after(1, NONE, NO, "stand 0;motion 0;");
        promise(34, "1: NAYS (NONE)");
        after(1, NONE, "chair oak 0 1 0 1;sits 1 0;", "motion 0;stand 0;motion 0;");
        after(1, 0, "chair oak 0 2 0 1;sits 1 0;", "motion 0;stand 0;motion 0;");
    }

    private static void streak() {
        term(5, 34, "STREAK: how many MOTIONS one behind the other were CARRIED at most");
        after(2, 0, AYE, "");
        after(2, 0, "", "motion 0;".repeat(40));
        after(2, 0, NO, "motion 0;");
        after(2, 1, AYE, "motion 0;");
        after(2, 40, AYE, "motion 0;".repeat(40));
        after(2, 20, AYE, "motion 0;wet;motion 0;dry;".repeat(10));
        String stool = AYE + "stool oak 0 3 1 1;";
        after(2, 3, stool, "motion 0;motion 0;motion 1;motion 0;motion 1;motion 1;set 1;motion 1;motion 0;");
        after(2, 2, stool, "motion 0;motion 0;motion 1;motion 0;set 1;motion 1;motion 0;");
        after(2, 2, stool, "motion 1;motion 0;motion 0;");
        after(2, 0, stool, "motion 1;set 1;motion 1;");
        after(2, 1, AYE, "motion 0;set 0;motion 0;motion 0;");
        promise(34, "2: STREAK");
        after(2, 3, ALL_MATTERS, "motion 62;motion 63;motion 63;motion 63;motion 0;motion 63;");
    }

    private static void afterWrongly() {
        promise(34, "-2: there is none such (of either), or for another what");
        room(AYE, "motion 0;");
        for (int what : new int[] {LOW, -2, -1, 3, 4, 10, HIGH}) {
            due(votes.after(0, 0, what), -2);
        }
        for (int none : NO_CHAMBERS) {
            for (int what = 0; what <= 2; what++) {
                due(votes.after(none, 0, what), -2);
                due(votes.after(0, none, what), -2);
                due(votes.after(none, none, what), -2);
            }
        }
        room(AYE);
        due(votes.after(0, 0, 0), -2);
        votes = new FurnitureVotes();
        due(votes.after(0, 0, 2), -2);
    }

    private static void bears() {
        term(5, 35, "By a LOG: BEARS of a WOOD, 0 .. 2: the least, the greatest LIMIT that FITS with it");
        bears("", 1, 99, 1, 99, 1, 99);
        bears("still 60 9 6;", 79, 99, 88, 99, 97, 99);
        bears("sounds 60 9 6;", 1, 78, 1, 87, 1, 96);
        bears("sounds 60 9 6;still 60 9 6;", NONE, NONE, NONE, NONE, NONE, NONE);
        bears("sounds 0 0 0;", NONE, NONE, NONE, NONE, NONE, NONE);
        bears("still 0 0 0;", 1, 99, 1, 99, 1, 99);
        bears("sounds 1 0 0;", 1, 1, 1, 1, 1, 1);
        bears("sounds 5 0 0;still 4 0 0;", 5, 5, 5, 5, 5, 5);
        bears("sounds 0 9 0;", NONE, NONE, 1, 9, 1, 18);
        bears("sounds 0 9 0;still 9 0 0;", NONE, NONE, NONE, NONE, 10, 18);
        bears("still 0 0 6;sounds 60 0 0;", 19, 60, 19, 60, 19, 60);
        bears("still 1 0 0;".repeat(7) + "sounds 3 0 0;", 2, 3, 2, 3, 2, 3);
        promise(35, "BEARS of a WOOD: the least, or (most) the greatest");
        bears("sounds 0 5 1;still 0 2 1;", NONE, NONE, 6, 8, 8, 13);
        promise(35, "NONE: none, another WOOD, or there is none such");
        log("");
        for (int most = 0; most < 2; most++) {
            for (int wood : new int[] {LOW, -2, -1, 3, 4, HIGH}) {
                due(votes.bears(0, wood, most == 1), NONE);
            }
            for (int l : NO_CHAMBERS) {
                due(votes.bears(l, 0, most == 1), NONE);
            }
        }
        log("sounds 0 0 6;still 60 9 6;");
        due(votes.bears(0, 0, false), NONE);
        due(votes.bears(0, 0, true), NONE);
    }

    private static void bears(String text, int... want) {
        log(text);
        for (int wood = 0; wood < 3; wood++) {
            due(votes.bears(0, wood, false), want[2 * wood]);
            due(votes.bears(0, wood, true), want[2 * wood + 1]);
        }
    }

    private static void asToldToo() {
        term(6, 36, "(Of a CHAMBER as told.)");
        room("bench walnut 0 3 0 2;stool pine 0 7 0 1;sits 1 1;stands 2;damp 3;",
            "wax 0;wax 1;wet;night;motion 0;sit 1 0;");
        for (int round = 0; round < 2; round++) {
            due(votes.kin(0, 0, 1), 0);
            due(votes.trade(0, 0), NONE);
            due(votes.oaken(0, 0), 1);
            due(votes.walk(0, 0, 63), 6);
            due(votes.place(0, 0, 0, false), 0);
            due(votes.place(0, 0, 0, true), 2);
            due(votes.hinge(0, 0, false), 1);
            due(votes.hinge(0, 0, true), 1);
            // What a session and drawn deeds do in the room is not told of the chamber.
            due(votes.stop(0, 0), 6);
            due(votes.after(0, 0, 0), 5);
            due(votes.drawn(0, 4711, 60, 0) >= 0, true);
        }
    }

    private static void kin() {
        term(6, 36, "KIN of two PIECES: how many MOTIONS there are to which both say AYE, or both say NO");
        kin(AYE + AYE, 64);
        kin(NO + NO, 64);
        kin(AYE + NO, 0);
        kin(QUIET + QUIET, 0);
        kin(AYE + QUIET, 0);
        kin(ALL_MATTERS + AYE, 1);
        kin("bench oak 0 3 1 1;bench oak 0 3 2 1;", 16);
        kin("bench oak 0 3 1 1;bench oak 0 3 1 1;", 32);
        kin("chair oak 0 4 1 1;chair oak 0 4 1 1;sits 1 0;sits 1 1;", 64);
        kin("chair oak 0 4 1 1;chair oak 0 4 2 1;sits 1 0;sits 1 1;", 32);
        kin("chair oak 0 4 1 1;chair oak 0 4 1 1;sits 1 0;stands 1;", 0);
        kin(AYE + "table oak 0 1 0 1;", 0);
        kin(NO + "table oak 0 1 0 1;", 0);
        promise(36, "KIN");
        room(AYE + QUIET.repeat(6) + "bench oak 0 3 32 1;");
        due(votes.kin(0, 0, 7), 32);
        due(votes.kin(0, 7, 0), 32);
        due(votes.kin(0, 7, 7), 32);
        due(votes.kin(0, 0, 0), 64);
        promise(36, "NONE: there is none such (of any)");
        room(AYE);
        for (int p : NO_PIECES) {
            due(votes.kin(0, 0, p), NONE);
            due(votes.kin(0, p, 0), NONE);
            due(votes.kin(0, p, p), NONE);
        }
        for (int c : NO_CHAMBERS) {
            due(votes.kin(c, 0, 0), NONE);
        }
        room("");
        due(votes.kin(0, 0, 0), NONE);
        room(FULL);
        due(votes.kin(0, 7, 8), NONE);
        due(votes.kin(0, 8, 7), NONE);
    }

    private static void kin(String chamber, int want) {
        room(chamber);
        due(votes.kin(0, 0, 1), want);
        due(votes.kin(0, 1, 0), want);
    }

    private static void trade() {
        term(6, 37, "TRADE of a MOTION: the first couple of PEOPLE (10 times the one, and the other, greater one), by numbers,"
            + " by whose changing SEATS with each other (one may stand) it is CARRIED or not otherwise than now");
        trade("bench oak 0 5 0 1;sits 3 0;stands 5;", 1);
        trade("bench oak 0 5 0 1;stands 5;sits 3 0;", 1);
        trade("bench oak 0 5 0 1;sits 5 0;stands 4;", 1);
        trade("bench oak 0 5 0 1;sits 3 0;stands 4;", NONE);
        trade("bench oak 0 5 0 1;sits 3 0;stands 2;stands 5;", 2);
        trade("bench oak 0 5 0 1;stands 1;sits 3 0;stands 5;", 12);
        trade("bench oak 0 5 0 1;stands 1;stands 1;stands 1;stands 1;sits 4 0;stands 5;", 45);
        trade("bench oak 0 5 0 1;sits 3 0;stands 5;stands 5;stands 5;stands 5;stands 5;", 1);
        trade("bench oak 0 5 0 1;sits 3 0;stands 1;stands 1;stands 1;stands 1;stands 5;", 5);
        trade("bench oak 0 5 0 1;" + QUIET + "sits 3 0;sits 5 1;", 1);
        trade("bench oak 0 5 0 1;" + QUIET + "sits 3 0;sits 3 1;", NONE);
        // Two who stand, or who sit side by side, change nothing.
        trade("bench oak 0 5 0 1;stands 5;stands 30;", NONE);
        trade("bench oak 0 5 0 1;sits 2 0;sits 1 0;", NONE);
        trade("bench oak 0 5 0 1;stands 5;", NONE);
        trade("stands 1;".repeat(6), NONE);
        promise(37, "TRADE");
        room("bench oak 0 6 1 1;sits 3 0;stands 6;");
        due(votes.trade(0, 0), 1);
        due(votes.trade(0, 1), NONE);
        promise(37, "NONE: none, another MOTION, or there is none such");
        for (int motion : NO_MOTIONS) {
            due(votes.trade(0, motion), NONE);
        }
        for (int c : NO_CHAMBERS) {
            due(votes.trade(c, 0), NONE);
        }
        trade(AYE, NONE);
        trade("", NONE);
    }

    private static void trade(String chamber, int want) {
        room(chamber);
        due(votes.trade(0, 0), want);
    }

    private static void oaken() {
        term(6, 38, "OAKEN of a MOTION: the fewest PIECES (bits; of several the least) that, being of OAK instead, make it CARRIED or not otherwise than now");
        String walnut = "bench walnut 0 3 0 1;";
        oaken(walnut, 1);
        oaken("bench walnut 0 4 0 1;", NONE);
        oaken("bench walnut 1 1 0 1;", NONE);
        oaken(AYE + "stool pine 0 6 0 1;", 2);
        oaken(AYE + "stool pine 0 7 0 1;", NONE);
        oaken(walnut.repeat(8), 255);
        oaken(walnut.repeat(7) + AYE, NONE);
        oaken(walnut.repeat(7) + NO, 63);
        oaken(walnut + walnut + NO, 1);
        oaken(AYE + walnut + NO, 2);
        // One piece of two voices does as well as two of one voice.
        oaken(walnut + walnut + "bench walnut 0 3 0 2;stool oak 1 1 0 2;", 4);
        oaken(walnut + walnut + walnut + "stool oak 1 1 0 1;", 3);
        oaken(QUIET.repeat(7) + walnut, 128);
        oaken(walnut + "damp 9;", 1);
        oaken("bench pine 50 50 0 1;", NONE);
        oaken("bench pine 0 1 0 1;damp 0;", NONE);
        oaken("", NONE);
        promise(38, "OAKEN (bits)");
        room("bench walnut 0 3 1 1;");
        due(votes.oaken(0, 0), 1);
        due(votes.oaken(0, 1), NONE);
        promise(38, "NONE: by none, another MOTION, or there is none such");
        for (int motion : NO_MOTIONS) {
            due(votes.oaken(0, motion), NONE);
        }
        for (int c : NO_CHAMBERS) {
            due(votes.oaken(c, 0), NONE);
        }
        oaken(AYE, NONE);
    }

    private static void oaken(String chamber, int want) {
        room(chamber);
        due(votes.oaken(0, 0), want);
    }

    private static void walk() {
        term(6, 39, "WALK from a MOTION to a MOTION: the fewest steps, each of them one MATTER more or less, all MOTIONS on it (both ends, too) being CARRIED");
        room(AYE);
        for (int from = 0; from < 64; from++) {
            for (int to = 0; to < 64; to++) {
                due(votes.walk(0, from, to), Integer.bitCount(from ^ to));
            }
        }
        // Between 0 and 3 neither 1 nor 2 is carried; with matter 2 all are.
        String around = AYE + "stool oak 0 3 3 1;bench oak 0 3 4 1;bench oak 0 6 3 1;";
        room(around);
        due(votes.walk(0, 0, 3), 4);
        due(votes.walk(0, 3, 0), 4);
        due(votes.walk(0, 3, 3), 0);
        due(votes.walk(0, 56, 59), 4);
        due(votes.walk(0, 0, 59), 7);
        due(votes.walk(0, 0, 63), 6);
        due(votes.walk(0, 0, 1), NONE);
        due(votes.walk(0, 1, 0), NONE);
        due(votes.walk(0, 1, 1), NONE);
        room(AYE + "stool oak 0 3 3 1;bench oak 0 6 3 1;");
        due(votes.walk(0, 0, 3), NONE);
        due(votes.walk(0, 60, 63), NONE);
        due(votes.walk(0, 0, 60), 4);
        due(votes.walk(0, 3, 63), 4);
        promise(39, "WALK");
        room(ALL_MATTERS);
        due(votes.walk(0, 63, 63), 0);
        room(NO_MATTERS);
        due(votes.walk(0, 0, 0), 0);
        promise(39, "NONE: by none, other MOTIONS, or there is none such");
        due(votes.walk(0, 0, 1), NONE);
        due(votes.walk(0, 1, 0), NONE);
        due(votes.walk(0, 63, 63), NONE);
        room("");
        due(votes.walk(0, 0, 0), NONE);
        room(AYE);
        for (int motion : NO_MOTIONS) {
            due(votes.walk(0, motion, 0), NONE);
            due(votes.walk(0, 0, motion), NONE);
            due(votes.walk(0, motion, motion), NONE);
        }
        for (int c : NO_CHAMBERS) {
            due(votes.walk(c, 0, 0), NONE);
        }
    }

    private static void place() {
        term(6, 40, "PLACE of a PERSON for a MOTION: the SEAT (8: stands), of several the least, by which, all others staying, AYES less NOES (VOICES) are most; how much");
        place("bench oak 0 3 0 1;stands 3;", 0, 0, 1);
        place("bench oak 0 3 0 1;sits 3 0;", 0, 0, 1);
        place("stool oak 0 1 0 1;sits 1 0;", 0, 8, 0);
        place("stool oak 0 1 0 1;".repeat(8) + "sits 1 7;", 0, 8, 0);
        place("stool oak 0 1 0 1;".repeat(7) + QUIET + "sits 1 0;", 0, 7, 0);
        place(QUIET.repeat(7) + "bench oak 0 1 0 9;sits 1 0;", 0, 7, 9);
        place(QUIET.repeat(8) + "sits 30 7;", 0, 0, 0);
        place("bench oak 0 9 0 1;bench oak 0 3 0 1;bench oak 0 3 0 1;stands 3;", 0, 1, 1);
        place("bench oak 0 3 0 1;bench oak 0 3 0 2;stands 3;", 0, 1, 2);
        place("bench oak 0 6 0 1;sits 3 0;stands 3;", 0, 0, 0);
        place("bench oak 0 6 0 1;sits 3 0;stands 3;", 1, 0, 1);
        place("chair oak 0 9 0 1;stands 8;", 0, 8, 0);
        place("chair oak 0 9 0 1;stands 9;", 0, 0, 1);
        place("bench oak 1 1 0 9;".repeat(8) + "stands 1;".repeat(6), 5, 0, 72);
        place("stool oak 1 1 0 9;".repeat(8) + "stands 1;".repeat(6), 5, 0, -72);
        place("stands 30;", 0, 8, 0);
        promise(40, "PLACE: the SEAT, or (most) how much");
        room("stool oak 0 4 1 1;stands 1;");
        due(votes.place(0, 0, 0, false), 0);
        due(votes.place(0, 1, 0, false), 8);
        due(votes.place(0, 1, 0, true), 0);
        promise(40, "-1000: another MOTION, or there is none such (of either)");
        for (int most = 0; most < 2; most++) {
            for (int motion : NO_MOTIONS) {
                due(votes.place(0, motion, 0, most == 1), -1000);
            }
            for (int c : NO_CHAMBERS) {
                due(votes.place(c, 0, 0, most == 1), -1000);
            }
            for (int w : new int[] {LOW, -1000, -2, -1, 1, 2, 6, HIGH}) {
                due(votes.place(0, 0, w, most == 1), -1000);
            }
        }
        room(AYE);
        due(votes.place(0, 0, 0, false), -1000);
        room(FULL);
        due(votes.place(0, 0, 5, false), 0);
        due(votes.place(0, 0, 6, false), -1000);
        due(votes.place(0, 0, 6, true), -1000);
    }

    private static void place(String chamber, int person, int seat, int much) {
        room(chamber);
        due(votes.place(0, 0, person, false), seat);
        due(votes.place(0, 0, person, true), much);
    }

    private static void hinge() {
        term(6, 41, "HINGE of a MOTION: PIECES (bits) by each of whose saying nothing (as one that is OVER; TABLES behind it answer by that)"
            + " it is CARRIED or not otherwise than now");
        String table = "table oak 0 1 0 1;";
        hinge(AYE, 1);
        hinge(AYE + AYE, 0);
        hinge(AYE + NO, 2);
        hinge(AYE + AYE + NO, 3);
        hinge(NO, 0);
        hinge(QUIET.repeat(7) + AYE, 128);
        hinge(AYE + table, 2);
        hinge(NO + "table oak 0 1 0 2;", 3);
        hinge(NO + table, 0);
        hinge("bench oak 1 1 0 2;" + NO + table, 6);
        hinge(table + AYE, 2);
        // Who is silent also is so for the second table behind, and the first one is for it.
        hinge(NO + "table oak 0 1 0 3;table oak 0 1 0 1;", 3);
        hinge("bench oak 1 1 0 2;".repeat(4) + "stool oak 1 1 0 1;" + "stool oak 1 1 0 2;".repeat(3), 15);
        hinge("", 0);
        promise(41, "HINGE (bits)");
        room("bench oak 0 3 1 1;stool oak 0 3 2 1;");
        due(votes.hinge(0, 0, false), 0);
        due(votes.hinge(0, 1, false), 1);
        due(votes.hinge(0, 2, false), 0);
        due(votes.hinge(0, 3, false), 2);
    }

    private static void hinge(String chamber, int want) {
        room(chamber);
        due(votes.hinge(0, 0, false), want);
    }

    private static void loudest() {
        term(6, 41, "LOUDEST: the PIECE that is most LOUD, of several the least");
        loudest("bench oak 0 1 0 1;", 0);
        loudest("bench oak 0 1 0 1;".repeat(8), 0);
        loudest("bench oak 1 1 0 1;bench oak 2 1 0 1;bench oak 2 1 0 1;", 1);
        loudest("bench oak 2 1 0 1;bench oak 1 1 0 1;bench oak 2 1 0 1;", 0);
        loudest("bench oak 0 1 0 1;".repeat(7) + "bench oak 1 99 0 1;", 7);
        loudest("bench oak 2 1 0 1;bench walnut 0 1 0 1;", 1);
        loudest("bench oak 3 1 0 1;bench walnut 0 1 0 1;", 0);
        loudest("bench oak 5 1 0 1;chair pine 0 1 0 1;", 1);
        loudest("table oak 50 1 0 1;stool oak 50 1 0 1;sits 1 1;", 1);
        loudest(FULL, 0);
        promise(41, "or (loudest) LOUDEST (NONE without PIECES)");
        room("bench oak 0 1 1 1;bench oak 0 1 2 1;");
        due(votes.hinge(0, 0, true), 0);
        due(votes.hinge(0, 1, true), 0);
        due(votes.hinge(0, 2, true), 1);
        due(votes.hinge(0, 3, true), 0);
        room("");
        due(votes.hinge(0, 0, true), NONE);
        room("stands 30;".repeat(6));
        due(votes.hinge(0, 63, true), NONE);
        promise(41, "NONE: another MOTION, or there is none such");
        room(AYE);
        for (int motion : NO_MOTIONS) {
            due(votes.hinge(0, motion, false), NONE);
            due(votes.hinge(0, motion, true), NONE);
        }
        for (int c : NO_CHAMBERS) {
            due(votes.hinge(c, 0, false), NONE);
            due(votes.hinge(c, 0, true), NONE);
        }
    }

    private static void loudest(String chamber, int want) {
        room(chamber);
        due(votes.hinge(0, 0, true), want);
    }
}
