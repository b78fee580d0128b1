/** Each promise by examples that were worked out by hand: ordinary inputs, edges, wrong inputs. */
public final class PromisesTest {
    /** By damp 3: the bench says aye (3), the stool no (1), the chair no (2), aye by matter 2; the table is even, or no (2). */
    private static final String HALL = "bench pine 2 10 1 3;stool walnut 0 8 2 1;chair oak 0 5 4 2;table oak 0 1 0 2;"
        + "sits 4 0;sits 5 1;sits 3 2;stands 6;";
    private static final String DEEDS = "motion 0;set 1;sit 3 1;wax 1;motion 4;night;wet;dry;stand 0;sit 0 1;";
    private static final int LOW = Integer.MIN_VALUE;
    private static final int HIGH = Integer.MAX_VALUE;

    private static FurnitureVotes votes;
    private static String promise;

    private PromisesTest() {
    }

    public static void main(String[] args) {
        newObject();
        tape();
        texts();
        takenTapes();
        chambers();
        answers();
        kindsOfPieces();
        deeds();
        stops();
        states();
        carriedMotions();
        moves();
        waxes();
        turns();
        lobbies();
        powers();
        weathers();
        facts();
        fits();
        asks();
        drawn();
        onePiece();
        damps();
        greedy();
        agenda();
        odds();
        weighs();
        afterwards();
        kin();
        trades();
        walks();
        places();
        hinges();
        images();
        Play.finish("PromisesTest");
    }

    private static void due(long got, long want) {
        Play.due(promise + " (line " + line() + ")", got, want);
    }

    private static void due(boolean got, boolean want) {
        Play.due(promise + " (line " + line() + ")", got, want);
    }

    private static int line() {
        return StackWalker.getInstance().walk(frames -> frames.skip(2).findFirst().orElseThrow().getLineNumber());
    }

    private static void of(String name, String chamber) {
        promise = name;
        votes = Play.chamber(chamber);
    }

    private static void newObject() {
        promise = "1 a new object";
        votes = new FurnitureVotes();
        due(FurnitureVotes.NONE, -1);
        for (int sort = 0; sort < 3; sort++) {
            due(votes.count(sort), 0);
        }
        due(votes.count(3), -2);
        due(votes.count(-1), -2);
        due(votes.fault(0), 0);
        due(votes.fault(1), -1);
        due(votes.fault(2), -1);
        due(votes.fault(-1), -1);
        for (int k = -1; k <= 3; k++) {
            due(votes.again(k), false);
        }
        due(votes.end(0), 0);
        due(votes.end(1), -1);
        due(votes.chamber(0, 0), -1);
        due(votes.deed(0, -1, 0), -2);
        due(votes.fact(0, -1, 0), -2);
    }

    private static void tape() {
        promise = "2 feed, 3 end";
        votes = new FurnitureVotes();
        for (int i = 1; i <= 30; i++) {
            due(votes.feed(0x20202020, 0x20202020, 0x20202020, 0x20202020, 0x20202020), 20 * i);
        }
        due(votes.feed(1, 2, 3, 4, 5), -1);
        due(votes.end(601), -1);
        due(votes.end(-1), -1);
        due(votes.end(LOW), -1);
        due(votes.end(HIGH), -1);
        due(votes.end(600), 600);
        due(votes.end(581), 581);
        due(votes.feed(1, 2, 3, 4, 5), -1);
        due(votes.end(580), 580);
        due(votes.end(581), -1);
        due(votes.feed(0x20202020, 0x64616D70, 0x20373B20, 0x20202020, 0x20202041), 600);
        due(votes.end(599), 599);
        due(votes.text(0, -1), 0);
        due(votes.chamber(0, 2), 7);
        due(votes.end(1), -1);
    }

    private static void texts() {
        promise = "4 text, 5 fault, 42 count";
        votes = new FurnitureVotes();
        due(Play.tell(votes, 0, 0, "damp 1;"), -2);
        due(votes.end(1), -1);
        due(Play.tell(votes, 0, -1, "damp 1;"), 0);
        due(votes.end(1), -1);
        due(Play.tell(votes, 0, -1, "damp 2;"), 1);
        due(Play.tell(votes, 0, -1, "damp 33;"), -2);
        due(votes.fault(0), 0);
        due(votes.fault(1), -1);
        due(Play.tell(votes, 0, 1, "damp 33;"), -1);
        due(votes.fault(0), 2);
        due(votes.fault(1), 5);
        due(votes.fault(2), -1);
        due(votes.end(1), -1);
        due(votes.chamber(1, 2), 2);
        due(votes.text(0, 2), -2);
        due(votes.fault(0), 0);
        due(votes.fault(1), -1);
        due(Play.tell(votes, 0, 1, "damp 4;damp 5;"), 1);
        due(votes.chamber(0, 2), 1);
        due(votes.chamber(1, 2), 5);
        due(votes.text(0, -2), -2);
        due(votes.text(0, LOW), -2);
        due(votes.text(-1, -1), -2);
        due(votes.text(3, -1), -2);
        due(votes.count(0), 2);
        due(votes.count(1), 0);
        due(votes.text(1, -1), 0);
        due(votes.text(2, -1), 0);
        due(votes.text(2, -1), 1);
        due(votes.text(2, -1), -2);
        due(votes.count(1), 1);
        due(votes.count(2), 2);
        due(votes.text(1, 1), -2);
    }

    /** Whatever text() answers, nothing of the tape is left for the next text, and an image still has its own. */
    private static void takenTapes() {
        promise = "4 text takes the tape";
        int[][] refused = {{0, 1}, {0, -2}, {0, HIGH}, {0, LOW}, {-1, -1}, {3, -1}, {LOW, 0}, {HIGH, 0}, {1, 0}, {2, 1}};
        votes = new FurnitureVotes();
        due(Play.tell(votes, 0, -1, "damp 1;"), 0);
        for (int[] asked : refused) {
            Play.bring(votes, Play.bytes("bad bad bad"));
            due(votes.image(0), true);
            due(votes.text(asked[0], asked[1]), -2);
            due(votes.fault(0), 0);
            due(votes.fault(1), -1);
            due(votes.end(1), -1);
            due(votes.end(0), 0);
            due(votes.feed(0x64616D70, 0x20373B20, 0x20202020, 0x20202020, 0x20202020), 20);
            due(votes.text(0, 0), 0);
            due(votes.chamber(0, 2), 7);
            due(votes.again(0), true);
            due(votes.end(12), -1);
            due(votes.end(11), 11);
            due(votes.chamber(0, 2), 1);
            due(votes.end(0), 0);
        }
        for (int sort = 0; sort < 3; sort++) {
            votes = new FurnitureVotes();
            due(votes.text(sort, -1), 0);
            due(votes.text(sort, -1), 1);
            due(votes.feed(0, 0, 0, 0, 0), 20);
            due(votes.text(sort, -1), -2);
            due(votes.feed(0, 0, 0, 0, 0), 20);
            due(votes.text(sort, 1), -1);
            due(votes.fault(0), 1);
            due(votes.fault(1), 0);
            due(votes.feed(0, 0, 0, 0, 0), 20);
        }
    }

    private static void chambers() {
        of("6 chamber", HALL);
        due(votes.chamber(0, 0), 4);
        due(votes.chamber(0, 1), 4);
        due(votes.chamber(0, 2), 3);
        int[][] pieces = {{0, 2, 2, 10, 1, 3}, {1, 1, 0, 8, 2, 1}, {2, 0, 0, 5, 4, 2}, {3, 0, 0, 1, 0, 2}};
        int[][] people = {{4, 0}, {5, 1}, {3, 2}, {6, 8}};
        for (int i = 0; i < 10; i++) {
            for (int j = 0; j < 6; j++) {
                due(votes.chamber(0, 10 + 10 * j + i), i < 4 ? pieces[i][j] : -1);
            }
            due(votes.chamber(0, 70 + i), i < 4 ? people[i][0] : -1);
            due(votes.chamber(0, 80 + i), i < 4 ? people[i][1] : -1);
        }
        for (int what : new int[] {LOW, -1, 3, 9, 90, 91, 100, HIGH}) {
            due(votes.chamber(0, what), -1);
        }
        due(votes.chamber(1, 0), -1);
        due(votes.chamber(-1, 0), -1);
        due(votes.chamber(HIGH, 0), -1);
        of("6 chamber, full", "table pine 50 99 63 9;".repeat(8) + "sits 30 7;".repeat(6) + "damp 0;damp 9;");
        due(votes.chamber(0, 17), 3);
        due(votes.chamber(0, 67), 9);
        due(votes.chamber(0, 18), -1);
        due(votes.chamber(0, 75), 30);
        due(votes.chamber(0, 85), 7);
        due(votes.chamber(0, 76), -1);
        due(votes.chamber(0, 2), 9);
        due(votes.answer(0, 63, 17), 6 * 30 + 50 + 9 * 2 + 18);
    }

    private static void answers() {
        of("7 answer", HALL);
        int[] loud = {12, 8, 3, 0};
        int[] said = {1, 2, 2, 0};
        int[] loudOfAll = {15, 11, 6, 0};
        int[] saidToAll = {1, 2, 1, 2};
        for (int p = 0; p < 4; p++) {
            due(votes.answer(0, 0, 10 + p), loud[p]);
            due(votes.answer(0, 0, 20 + p), said[p]);
            due(votes.answer(0, 63, 10 + p), loudOfAll[p]);
            due(votes.answer(0, 63, 20 + p), saidToAll[p]);
        }
        due(votes.answer(0, 0, 0), 0);
        due(votes.answer(0, 0, 1), 3);
        due(votes.answer(0, 0, 2), 3);
        due(votes.answer(0, 63, 0), 1);
        due(votes.answer(0, 63, 1), 5);
        due(votes.answer(0, 63, 2), 3);
        for (int what : new int[] {LOW, -1, 3, 9, 14, 19, 24, 29, 30, HIGH}) {
            due(votes.answer(0, 0, what), -1);
        }
        due(votes.answer(0, 64, 0), -1);
        due(votes.answer(0, -1, 0), -1);
        due(votes.answer(1, 0, 0), -1);
        due(votes.answer(-1, 0, 0), -1);
    }

    private static void kindsOfPieces() {
        of("7 answer, empty", "");
        due(votes.answer(0, 0, 0), 0);
        due(votes.answer(0, 0, 10), -1);
        of("7 answer, a chair", "chair oak 9 5 0 2;chair oak 9 5 0 3;chair oak 0 5 0 4;sits 1 1;sits 1 2;");
        due(votes.answer(0, 0, 20), 0);
        due(votes.answer(0, 0, 21), 1);
        due(votes.answer(0, 0, 22), 2);
        of("7 answer, a limit met", "bench oak 4 5 1 1;bench oak 5 5 0 1;");
        due(votes.answer(0, 0, 20), 0);
        due(votes.answer(0, 0, 21), 1);
        due(votes.answer(0, 1, 20), 1);
        of("7 answer, tables", "table oak 9 1 0 9;stool oak 1 1 0 2;table oak 0 99 0 5;table oak 0 1 0 3;table oak 0 1 0 1;");
        int[] said = {0, 2, 1, 2, 0};
        for (int p = 0; p < 5; p++) {
            due(votes.answer(0, 0, 20 + p), said[p]);
        }
        due(votes.answer(0, 0, 1), 5);
        due(votes.answer(0, 0, 2), 5);
        due(votes.answer(0, 0, 0), 0);
    }

    private static void deeds() {
        promise = "8 deed";
        votes = new FurnitureVotes();
        due(Play.tell(votes, 1, -1, "motion 63;stand 5;wax 7;set 0;sit 4 6;wet;dry;night;"), 0);
        int[][] deeds = {{0, 63, -1}, {1, 5, -1}, {2, 7, -1}, {3, 0, -1}, {4, 4, 6}, {5, -1, -1}, {6, -1, -1}, {7, -1, -1}};
        due(votes.deed(0, -1, 0), 8);
        for (int k = 0; k < 8; k++) {
            for (int what = 0; what < 3; what++) {
                due(votes.deed(0, k, what), deeds[k][what]);
            }
            due(votes.deed(0, k, 3), -2);
            due(votes.deed(0, k, -1), -2);
        }
        due(votes.deed(0, -1, 1), -2);
        due(votes.deed(0, -2, 0), -2);
        due(votes.deed(0, 8, 0), -2);
        due(votes.deed(0, HIGH, 0), -2);
        due(votes.deed(1, -1, 0), -2);
        due(votes.deed(-1, -1, 0), -2);
        due(Play.tell(votes, 1, 0, ""), 0);
        due(votes.deed(0, -1, 0), 0);
        due(votes.deed(0, 0, 0), -2);
    }

    private static void stops() {
        stop("", 0);
        stop(DEEDS, 10);
        stop("set 0;", 0);
        stop("wet;sit 0 0;", 1);
        stop("stand 3;", 0);
        stop("stand 4;", 0);
        stop("stand 0;stand 0;", 1);
        stop("sit 4 0;", 0);
        stop("sit 0 4;", 0);
        stop("wax 4;", 0);
        stop("set 4;", 0);
        stop("wax 3;".repeat(10), 9);
        stop("wax 3;".repeat(9) + "night;wax 3;wax 3;", 11);
        stop("wet;".repeat(7), 6);
        stop("dry;".repeat(4), 3);
        stop("motion 0;sit 0 1;", 1);
        stop("motion 0;stand 1;", 1);
        stop("motion 0;wax 1;set 1;sit 0 1;set 1;", 4);
        stop("night;".repeat(40), 40);
        due(votes.stop(1, 0), -1);
        due(votes.stop(0, 1), -1);
        due(votes.stop(-1, 0), -1);
        due(votes.stop(0, -1), -1);
    }

    private static void stop(String deeds, int want) {
        of("9 stop of '" + deeds + "'", HALL);
        due(Play.tell(votes, 1, -1, deeds), 0);
        due(votes.stop(0, 0), want);
        due(votes.state(0, 0, want, 2) != -2, true);
        due(votes.state(0, 0, want + 1, 2), -2);
    }

    private static void states() {
        of("10 state", HALL);
        Play.tell(votes, 1, -1, DEEDS);
        // motions, carried, damp, overs, ayes, noes, age 0, age 1, wax 1, loads 0, 1, 2, 3, seats 0, 1, 2, 3
        int[] whats = {0, 1, 2, 3, 4, 5, 10, 11, 21, 30, 31, 32, 33, 40, 41, 42, 43};
        int[][] states = {
            {0, 0, 3, 0, 0, 0, 2, 0, 0, 4, 5, 3, 0, 0, 1, 2, 8},
            {1, 0, 3, 2, 3, 3, 2, 0, 0, 4, 0, 3, 0, 0, 8, 2, 8},
            {1, 0, 3, 0, 3, 3, 2, 0, 0, 4, 0, 3, 0, 0, 8, 2, 8},
            {1, 0, 3, 0, 3, 3, 2, 0, 0, 4, 6, 3, 0, 0, 8, 2, 1},
            {1, 0, 3, 0, 3, 3, 2, 0, 1, 4, 6, 3, 0, 0, 8, 2, 1},
            {2, 1, 3, 0, 5, 2, 2, 0, 1, 4, 6, 3, 0, 0, 8, 2, 1},
            {2, 1, 3, 0, 5, 2, 4, 1, 0, 4, 6, 3, 0, 0, 8, 2, 1},
            {2, 1, 4, 0, 5, 2, 4, 1, 0, 4, 6, 3, 0, 0, 8, 2, 1},
            {2, 1, 3, 0, 5, 2, 4, 1, 0, 4, 6, 3, 0, 0, 8, 2, 1},
            {2, 1, 3, 0, 5, 2, 4, 1, 0, 0, 6, 3, 0, 8, 8, 2, 1},
            {2, 1, 3, 0, 5, 2, 4, 1, 0, 0, 10, 3, 0, 1, 8, 2, 1},
        };
        for (int n = 0; n < states.length; n++) {
            for (int i = 0; i < whats.length; i++) {
                due(votes.state(0, 0, n, whats[i]), states[n][i]);
            }
        }
        for (int what : new int[] {LOW, -1, 6, 9, 14, 19, 24, 34, 44, 49, 50, HIGH}) {
            due(votes.state(0, 0, 1, what), -2);
        }
        due(votes.state(0, 0, 11, 0), -2);
        due(votes.state(0, 0, -1, 0), -2);
        due(votes.state(0, 0, HIGH, 0), -2);
        due(votes.state(1, 0, 0, 0), -2);
        due(votes.state(0, 1, 0, 0), -2);
        due(votes.state(-1, 0, 0, 0), -2);
        of("10 state, nights", "bench pine 50 1 0 1;bench oak 50 1 0 1;");
        Play.tell(votes, 1, -1, "wax 0;wax 0;" + "night;".repeat(38));
        due(votes.state(0, 0, 3, 20), 1);
        due(votes.state(0, 0, 5, 20), 0);
        due(votes.state(0, 0, 26, 10), 98);
        due(votes.state(0, 0, 27, 10), 99);
        due(votes.state(0, 0, 40, 10), 99);
        due(votes.state(0, 0, 40, 11), 88);
    }

    private static void carriedMotions() {
        of("11 carried, 15 nearest, 28 worded, 29 clear", HALL);
        due(votes.carried(0, -1), 32);
        due(votes.carried(0, 0), 4);
        due(votes.carried(0, 4), 12);
        due(votes.carried(0, 31), 63);
        due(votes.carried(0, 32), -1);
        due(votes.carried(0, -2), -1);
        due(votes.carried(0, HIGH), -1);
        due(votes.carried(1, -1), -1);
        due(votes.nearest(0, 0), 4);
        due(votes.nearest(0, 59), 63);
        due(votes.nearest(0, 12), 12);
        due(votes.nearest(0, 64), -1);
        due(votes.nearest(0, -1), -1);
        due(votes.nearest(1, 0), -1);
        due(votes.worded(0, 0), 4);
        due(votes.worded(0, 34), 38);
        due(votes.worded(0, 7), 7);
        due(votes.worded(0, 64), -1);
        due(votes.worded(0, -1), -1);
        due(votes.worded(1, 0), -1);
        due(votes.clear(0, -1), 0);
        due(votes.clear(0, 0), -1);
        due(votes.clear(1, -1), -1);
        of("15 nearest, 28 worded, of several", "bench oak 0 3 24 1;");
        due(votes.nearest(0, 0), 8);
        due(votes.nearest(0, 3), 11);
        due(votes.worded(0, 0), 8);
        due(votes.worded(0, 16), 16);
        of("15 nearest, 28 worded, far away", "bench oak 0 18 63 1;");
        due(votes.nearest(0, 0), 63);
        due(votes.worded(0, 0), 63);
        of("29 clear", "bench oak 0 3 3 2;stool oak 0 3 2 1;");
        due(votes.carried(0, -1), 48);
        due(votes.clear(0, -1), 16);
        due(votes.clear(0, 0), 1);
        due(votes.clear(0, 15), 61);
        due(votes.clear(0, 16), -1);
        due(votes.clear(0, -2), -1);
        of("11 carried, none", "");
        due(votes.carried(0, -1), 0);
        due(votes.carried(0, 0), -1);
        due(votes.nearest(0, 0), -1);
        due(votes.worded(0, 0), -1);
        due(votes.clear(0, -1), 0);
    }

    private static void moves() {
        of("12 moves", HALL);
        int[] row = {0, 1, 2, 2};
        int[] rowOf4 = {0, 1, 2, 8};
        due(votes.moves(0, 0, -1), 1);
        due(votes.moves(0, 4, -1), 0);
        for (int k = 0; k < 4; k++) {
            due(votes.moves(0, 0, k), row[k]);
            due(votes.moves(0, 4, k), rowOf4[k]);
        }
        due(votes.moves(0, 0, 4), -1);
        due(votes.moves(0, 0, -2), -1);
        due(votes.moves(0, 64, -1), -1);
        due(votes.moves(0, -1, -1), -1);
        due(votes.moves(1, 0, -1), -1);
        of("12 moves, two", "stool oak 0 5 0 1;bench oak 0 7 0 1;sits 5 0;stands 2;sits 5 0;");
        due(votes.moves(0, 0, -1), 2);
        due(votes.moves(0, 0, 0), 1);
        due(votes.moves(0, 0, 1), 8);
        due(votes.moves(0, 0, 2), 1);
        of("12 moves, not by two", "bench oak 0 9 0 1;stands 3;stands 3;stands 3;");
        due(votes.moves(0, 0, -1), -1);
        due(votes.moves(0, 0, 0), -1);
        of("12 moves, nobody", "bench oak 1 1 0 1;");
        due(votes.moves(0, 0, -1), 0);
        due(votes.moves(0, 0, 0), -1);
    }

    private static void waxes() {
        of("13 waxed", HALL);
        due(votes.waxed(0, 0, true, -1), -1);
        due(votes.waxed(0, 0, true, 0), -1);
        due(votes.waxed(0, 0, false, -1), 0);
        due(votes.waxed(0, 0, false, 0), -1);
        due(votes.waxed(0, 4, false, -1), 1);
        due(votes.waxed(0, 4, false, 0), 0);
        due(votes.waxed(0, 4, false, 1), -1);
        due(votes.waxed(0, 4, false, -2), -1);
        due(votes.waxed(0, 4, true, -1), 0);
        due(votes.waxed(0, 64, true, -1), -1);
        due(votes.waxed(0, -1, false, -1), -1);
        due(votes.waxed(1, 0, false, -1), -1);
        of("13 waxed, two", "bench oak 1 1 0 1;bench oak 1 1 0 1;stool oak 5 2 0 2;stool oak 4 1 0 2;");
        due(votes.waxed(0, 0, true, -1), 2);
        due(votes.waxed(0, 0, true, 0), 2);
        due(votes.waxed(0, 0, true, 1), 3);
        of("13 waxed, one more than once", "stool oak 9 1 0 1;bench oak 1 1 0 1;");
        due(votes.waxed(0, 0, true, -1), 3);
        for (int k = 0; k < 3; k++) {
            due(votes.waxed(0, 0, true, k), 0);
        }
        due(votes.waxed(0, 0, true, 3), -1);
        of("13 waxed, not by three", "stool oak 13 1 0 1;bench oak 1 1 0 1;");
        due(votes.waxed(0, 0, true, -1), -1);
    }

    private static void turns() {
        of("14 turn", HALL);
        due(votes.turn(0, 0), 2);
        due(votes.turn(0, 4), -1);
        due(votes.turn(0, 64), -1);
        due(votes.turn(0, -1), -1);
        due(votes.turn(1, 0), -1);
        of("14 turn, the last night", "bench oak 0 40 0 1;bench pine 0 99 0 1;");
        due(votes.turn(0, 0), 40);
        of("14 turn, too late", "bench oak 0 41 0 1;bench pine 0 99 0 1;");
        due(votes.turn(0, 0), -1);
        of("14 turn, pine", "bench pine 0 7 0 1;");
        due(votes.turn(0, 0), 1);
    }

    private static void lobbies() {
        of("16 lobby", HALL);
        int[] ends = {1, 1, 0, 0, 0};
        int[] firsts = {-1, 1, -1, -1, -1};
        for (int n = 0; n <= 4; n++) {
            due(votes.lobby(0, 4, n, false), ends[n]);
            due(votes.lobby(0, 4, n, true), firsts[n]);
            due(votes.lobby(0, 0, n, false), 0);
            due(votes.lobby(0, 0, n, true), -1);
        }
        due(votes.lobby(0, 4, 5, false), -2);
        due(votes.lobby(0, 4, -1, true), -2);
        due(votes.lobby(0, 64, 1, false), -2);
        due(votes.lobby(0, -1, 1, true), -2);
        due(votes.lobby(1, 4, 1, false), -2);
        of("16 lobby, best none", "bench oak 1 1 0 1;");
        due(votes.lobby(0, 0, 1, true), 8);
        due(votes.lobby(0, 0, 1, false), 1);
        due(votes.lobby(0, 0, 2, false), 0);
        of("16 lobby, best a stool", "bench oak 50 1 0 1;stool oak 4 1 0 1;");
        due(votes.lobby(0, 0, 0, false), 0);
        due(votes.lobby(0, 0, 3, false), 1);
        due(votes.lobby(0, 0, 4, true), 0);
        due(votes.lobby(0, 0, 2, true), 1);
        of("16 lobby, no pieces", "");
        due(votes.lobby(0, 0, 4, false), 0);
        due(votes.lobby(0, 0, 4, true), -1);
    }

    private static void powers() {
        of("17 power", HALL);
        int[] swings = {5, 1, 3, 3};
        int[][] parts = {{5, 12}, {1, 12}, {1, 4}, {1, 4}};
        due(votes.power(0, 0), 5);
        for (int p = 0; p < 10; p++) {
            due(votes.power(0, 10 + p), p < 4 ? swings[p] : -1);
            due(votes.power(0, 20 + p), p < 4 ? parts[p][0] : -1);
            due(votes.power(0, 30 + p), p < 4 ? parts[p][1] : -1);
        }
        for (int what : new int[] {LOW, -1, 1, 9, 40, HIGH}) {
            due(votes.power(0, what), -1);
        }
        due(votes.power(1, 0), -1);
        of("17 power, one rules", "bench oak 0 1 0 9;bench oak 0 1 0 1;");
        due(votes.power(0, 0), 1);
        due(votes.power(0, 20), 1);
        due(votes.power(0, 30), 1);
        due(votes.power(0, 11), 0);
        due(votes.power(0, 21), 0);
        due(votes.power(0, 31), 1);
        of("17 power, half is not more", "bench oak 0 1 0 2;bench oak 0 1 0 1;bench oak 0 1 0 1;");
        due(votes.power(0, 0), 3);
        of("17 power, no pieces", "");
        due(votes.power(0, 0), 0);
        due(votes.power(0, 10), -1);
    }

    private static void weathers() {
        of("18 weather", HALL);
        due(votes.weather(0, 4, 2, 3, false), 51);
        due(votes.weather(0, 4, 2, 3, true), 100);
        due(votes.weather(0, 4, 0, 3, false), 1);
        due(votes.weather(0, 4, 0, 3, true), 1);
        due(votes.weather(0, 4, 9, 0, false), 0);
        due(votes.weather(0, 4, 9, 0, true), 1);
        due(votes.weather(0, 4, 9, 10, false), 1);
        due(votes.weather(0, 4, 9, 10, true), 1);
        due(votes.weather(0, 4, -1, 3, false), -1);
        due(votes.weather(0, 4, 10, 3, true), -1);
        due(votes.weather(0, 4, 1, -1, false), -1);
        due(votes.weather(0, 4, 1, 11, false), -1);
        due(votes.weather(0, 64, 1, 3, false), -1);
        due(votes.weather(0, -1, 1, 3, false), -1);
        due(votes.weather(1, 4, 1, 3, false), -1);
        of("18 weather, at the ends", "bench walnut 0 9 0 1;damp 9;");
        due(votes.weather(0, 0, 1, 3, false), 3);
        due(votes.weather(0, 0, 1, 3, true), 10);
        due(votes.weather(0, 0, 2, 5, false), 1);
        due(votes.weather(0, 0, 2, 5, true), 2);
    }

    private static void facts() {
        promise = "19 fact";
        votes = new FurnitureVotes();
        due(Play.tell(votes, 2, -1, "sounds 60 9 6;still 0 1 2;"), 0);
        int[][] facts = {{1, 60, 9, 6}, {0, 0, 1, 2}};
        due(votes.fact(0, -1, 0), 2);
        for (int k = 0; k < 2; k++) {
            for (int what = 0; what < 4; what++) {
                due(votes.fact(0, k, what), facts[k][what]);
            }
            due(votes.fact(0, k, 4), -2);
            due(votes.fact(0, k, -1), -2);
        }
        due(votes.fact(0, -1, 1), -2);
        due(votes.fact(0, 2, 0), -2);
        due(votes.fact(0, -2, 0), -2);
        due(votes.fact(1, -1, 0), -2);
        due(votes.fact(-1, -1, 0), -2);
    }

    private static void fits() {
        promise = "20 fits, 35 bears";
        votes = new FurnitureVotes();
        Play.tell(votes, 2, -1, "sounds 10 0 0;still 5 0 1;");
        int[] fitting = {8, 9, 107, 108, 206, 207};
        due(votes.fits(0, 0), 6);
        due(votes.fits(0, 1), -1);
        due(votes.fits(0, 2), -1);
        for (int k = 0; k < 6; k++) {
            due(votes.fits(0, 10 + k), fitting[k]);
        }
        for (int what : new int[] {LOW, -1, 3, 9, 16, HIGH}) {
            due(votes.fits(0, what), -2);
        }
        due(votes.fits(1, 0), -2);
        due(votes.fits(-1, 0), -2);
        for (int wood = 0; wood < 3; wood++) {
            due(votes.bears(0, wood, false), 9);
            due(votes.bears(0, wood, true), 10);
        }
        due(votes.bears(0, 3, false), -1);
        due(votes.bears(0, -1, true), -1);
        due(votes.bears(1, 0, true), -1);
        Play.tell(votes, 2, 0, "sounds 0 9 0;still 9 0 0;");
        due(votes.fits(0, 0), 9);
        due(votes.fits(0, 1), 2);
        due(votes.fits(0, 2), -1);
        due(votes.bears(0, 1, false), -1);
        due(votes.bears(0, 2, false), 10);
        due(votes.bears(0, 2, true), 18);
        Play.tell(votes, 2, 0, "sounds 0 9 0;still 9 0 0;still 17 0 0;");
        due(votes.fits(0, 0), 1);
        due(votes.fits(0, 1), 2);
        due(votes.fits(0, 2), 18);
        due(votes.fits(0, 10), 215);
        Play.tell(votes, 2, 0, "sounds 5 0 0;still 4 0 0;");
        due(votes.fits(0, 0), 3);
        due(votes.fits(0, 1), -1);
        due(votes.fits(0, 2), 5);
        Play.tell(votes, 2, 0, "sounds 5 0 0;still 4 0 0;still 0 9 0;");
        due(votes.fits(0, 1), 0);
        due(votes.fits(0, 2), 5);
        Play.tell(votes, 2, 0, "sounds 5 1 0;still 4 1 0;");
        due(votes.fits(0, 0), 3);
        due(votes.fits(0, 2), -1);
        Play.tell(votes, 2, 0, "sounds 0 0 0;");
        due(votes.fits(0, 0), 0);
        due(votes.fits(0, 1), -1);
        due(votes.fits(0, 2), -1);
        due(votes.fits(0, 10), -2);
        due(votes.bears(0, 0, true), -1);
        due(votes.ask(0, 0), -1);
        Play.tell(votes, 2, 0, "");
        due(votes.fits(0, 0), 297);
        due(votes.fits(0, 10 + 296), 296);
        due(votes.fits(0, 10 + 297), -2);
        due(votes.bears(0, 0, false), 1);
        due(votes.bears(0, 0, true), 99);
    }

    private static void asks() {
        promise = "21 ask";
        votes = new FurnitureVotes();
        Play.tell(votes, 2, -1, "sounds 10 0 0;still 5 0 1;");
        due(votes.ask(0, 9), 0);
        due(votes.ask(0, 0), 3);
        due(votes.ask(0, 60), 0);
        due(votes.ask(0, 61), -1);
        due(votes.ask(0, -1), -1);
        due(votes.ask(1, 0), -1);
        due(votes.ask(-1, 0), -1);
        Play.tell(votes, 2, 0, "sounds 10 0 0;still 9 0 0;");
        // Of three woods of limit 10, load 0 and 3 matters: by damp 1 walnut and pine sound, oak does not.
        due(votes.ask(0, 0), 13);
    }

    private static void drawn() {
        of("22 drawn", HALL);
        int[] whats = {0, 1, 2, 3, 4, 5, 10, 30, 43};
        int[] start = {0, 0, 3, 0, 0, 0, 2, 4, 8};
        for (int i = 0; i < whats.length; i++) {
            due(votes.drawn(0, 77, 0, whats[i]), start[i]);
        }
        // Seed 0 draws 0 (a motion), then 54236, which is 28 below 64: matter 2 is in it.
        due(votes.drawn(0, 0, 1, 0), 1);
        due(votes.drawn(0, 0, 1, 1), 1);
        due(votes.drawn(0, 0, 1, 3), 2);
        due(votes.drawn(0, 0, 1, 4), 5);
        for (int what : new int[] {LOW, -1, 6, 14, 44, 50, HIGH}) {
            due(votes.drawn(0, 0, 1, what), -2);
        }
        due(votes.drawn(0, 0, 61, 0), -2);
        due(votes.drawn(0, 0, -1, 0), -2);
        due(votes.drawn(1, 0, 1, 0), -2);
        of("22 drawn, nothing to draw from", "");
        due(votes.drawn(0, 5, 60, 0) >= 0, true);
        due(votes.drawn(0, 5, 60, 3), 0);
        due(votes.drawn(0, 5, 60, 10), -2);
    }

    private static void onePiece() {
        of("23 hush, 24 wake, 26 tips", HALL);
        due(votes.hush(0, 0, 0), 1);
        due(votes.hush(0, 0, 2), 0);
        due(votes.hush(0, 1, 0), 2);
        due(votes.wake(0, 0, 0), 0);
        due(votes.wake(0, 0, 2), 2);
        due(votes.tips(0, 0, 1), 3);
        due(votes.tips(0, 2, 1), 0);
        due(votes.tips(0, 0, 0), -1);
        for (int[] wrong : new int[][] {{0, 64, 0}, {0, -1, 0}, {0, 0, 4}, {0, 0, -1}, {1, 0, 0}, {-1, 0, 0}}) {
            due(votes.hush(wrong[0], wrong[1], wrong[2]), -1);
            due(votes.wake(wrong[0], wrong[1], wrong[2]), -1);
            due(votes.tips(wrong[0], wrong[1], wrong[2]), -1);
        }
        due(votes.tips(0, 64, 1), -1);
        of("23 hush, the edges", "bench oak 36 1 0 1;bench oak 37 1 0 1;table oak 5 5 0 1;");
        due(votes.hush(0, 0, 0), 9);
        due(votes.hush(0, 0, 1), -1);
        due(votes.hush(0, 0, 2), 1);
        of("24 wake, the edges", "bench oak 0 60 0 1;bench oak 0 61 0 1;bench pine 0 99 0 1;table pine 50 99 0 1;damp 0;");
        due(votes.wake(0, 0, 0), 60);
        due(votes.wake(0, 0, 1), -1);
        due(votes.wake(0, 0, 2), 50);
        due(votes.wake(0, 0, 3), 25);
        of("26 tips, the edges", "stool walnut 0 9 0 1;stool walnut 0 10 0 1;stool oak 1 1 0 1;stool pine 0 9 0 1;");
        due(votes.tips(0, 0, 0), 9);
        due(votes.tips(0, 0, 1), -1);
        due(votes.tips(0, 0, 2), 0);
        due(votes.tips(0, 0, 3), 5);
    }

    private static void damps() {
        of("25 damps, 27 weighty", HALL);
        due(votes.damps(0, 0), 0);
        due(votes.damps(0, 4), 1020);
        due(votes.damps(0, 64), -1);
        due(votes.damps(0, -1), -1);
        due(votes.damps(1, 0), -1);
        due(votes.weighty(0, 4), 5);
        due(votes.weighty(0, 0), 0);
        due(votes.weighty(0, 64), -1);
        due(votes.weighty(0, -1), -1);
        due(votes.weighty(1, 0), -1);
        of("27 weighty, carried by standing", "bench oak 1 1 0 1;stool oak 0 3 0 1;sits 1 1;sits 2 1;stands 9;");
        due(votes.weighty(0, 0), 3);
        of("25 damps, all", "bench oak 1 1 0 1;");
        due(votes.damps(0, 0), 1023);
    }

    private static void greedy() {
        of("30 greedy", HALL);
        int[] seats = {0, 2, 0, 0};
        due(votes.greedy(0, 0, -1), 3);
        for (int k = 0; k < 4; k++) {
            due(votes.greedy(0, 0, k), seats[k]);
        }
        due(votes.greedy(0, 0, 4), -1000);
        due(votes.greedy(0, 0, -2), -1000);
        due(votes.greedy(0, 64, -1), -1000);
        due(votes.greedy(0, -1, -1), -1000);
        due(votes.greedy(1, 0, -1), -1000);
        of("30 greedy, one stays standing", "stool oak 0 1 0 1;sits 1 0;");
        due(votes.greedy(0, 0, -1), 0);
        due(votes.greedy(0, 0, 0), 8);
        of("30 greedy, nobody", "stool oak 1 1 0 4;");
        due(votes.greedy(0, 0, -1), -4);
        due(votes.greedy(0, 0, 0), -1000);
    }

    private static void agenda() {
        of("31 agenda", "bench oak 9 1 0 2;bench oak 0 3 1 2;stool oak 0 3 3 3;");
        due(votes.agenda(0, 2, 1, 2, false), 3);
        due(votes.agenda(0, 2, 1, 2, true), 102);
        due(votes.agenda(0, 2, 2, 1, true), 201);
        due(votes.agenda(0, 1, 2, 2, true), 12);
        due(votes.agenda(0, 2, 2, 2, false), 2);
        due(votes.agenda(0, 2, 2, 2, true), 12);
        due(votes.agenda(0, 64, 0, 0, false), -1);
        due(votes.agenda(0, 0, -1, 0, false), -1);
        due(votes.agenda(0, 0, 0, 64, true), -1);
        due(votes.agenda(1, 0, 0, 0, true), -1);
        due(votes.agenda(-1, 0, 0, 0, true), -1);
        of("31 agenda, none", "");
        due(votes.agenda(0, 1, 2, 3, false), 0);
        due(votes.agenda(0, 1, 2, 3, true), 12);
    }

    private static void odds() {
        of("32 odds", HALL);
        long[][] odds = {{0, 1}, {1, 10}, {1, 5}, {3, 10}, {2, 5}, {1, 2}, {3, 5}, {7, 10}, {4, 5}, {9, 10}, {1, 1}};
        for (int p = 0; p <= 10; p++) {
            due(votes.odds(0, p, false), odds[p][0]);
            due(votes.odds(0, p, true), odds[p][1]);
        }
        due(votes.odds(0, 11, false), -1);
        due(votes.odds(0, -1, true), -1);
        due(votes.odds(1, 5, true), -1);
        of("32 odds, all six matters", "bench oak 0 18 63 1;");
        due(votes.odds(0, 3, false), 729);
        due(votes.odds(0, 3, true), 1000000);
    }

    private static void weighs() {
        of("33 weigh", HALL);
        weigh(3, 0, 0, 0, 0);
        due(votes.weigh(0, 5), -1);
        due(votes.weigh(0, -1), -1);
        due(votes.weigh(1, 0), -1);
        of("33 weigh, one rules", "bench oak 0 1 0 9;bench oak 0 1 0 1;");
        weigh(1, 8, 1, 2, 0);
        of("33 weigh, alike", "bench oak 0 1 0 3;bench oak 0 1 0 2;bench oak 0 1 0 2;");
        weigh(1, 1, 0, 0, 2);
        of("33 weigh, two", "bench oak 0 1 0 2;bench oak 0 1 0 2;");
        weigh(1, 0, 3, 0, 0);
        of("33 weigh, no pieces", "");
        weigh(0, 0, 0, 0, 0);
    }

    private static void weigh(int... want) {
        for (int what = 0; what < 5; what++) {
            due(votes.weigh(0, what), want[what]);
        }
    }

    private static void afterwards() {
        of("34 after", HALL);
        Play.tell(votes, 1, -1, DEEDS);
        due(votes.after(0, 0, 0), 1);
        due(votes.after(0, 0, 1), 1);
        due(votes.after(0, 0, 2), 1);
        due(votes.after(0, 0, 3), -2);
        due(votes.after(0, 0, -1), -2);
        due(votes.after(1, 0, 0), -2);
        due(votes.after(0, 1, 0), -2);
        Play.tell(votes, 1, 0, "motion 4;wet;motion 4;motion 0;motion 5;motion 6;night;motion 7;stand 3;motion 4;");
        due(votes.after(0, 0, 0), 1);
        due(votes.after(0, 0, 1), 3);
        due(votes.after(0, 0, 2), 3);
        Play.tell(votes, 1, 0, "stand 3;motion 4;");
        due(votes.after(0, 0, 0), -1);
        due(votes.after(0, 0, 1), -1);
        due(votes.after(0, 0, 2), 0);
        Play.tell(votes, 1, 0, "stand 1;sit 1 0;wet;motion 0;");
        due(votes.after(0, 0, 0), -1);
        due(votes.after(0, 0, 1), 2);
    }

    private static void kin() {
        of("36 kin", HALL);
        int[][] kin = {{64, 0, 32, 0}, {0, 64, 32, 32}, {32, 32, 64, 0}, {0, 32, 0, 32}};
        for (int a = 0; a < 4; a++) {
            for (int b = 0; b < 4; b++) {
                due(votes.kin(0, a, b), kin[a][b]);
            }
        }
        due(votes.kin(0, 4, 0), -1);
        due(votes.kin(0, 0, 4), -1);
        due(votes.kin(0, -1, 0), -1);
        due(votes.kin(0, 0, -1), -1);
        due(votes.kin(1, 0, 0), -1);
    }

    private static void trades() {
        of("37 trade, 38 oaken", HALL);
        due(votes.trade(0, 0), 12);
        due(votes.trade(0, 64), -1);
        due(votes.trade(0, -1), -1);
        due(votes.trade(1, 0), -1);
        due(votes.oaken(0, 4), 1);
        due(votes.oaken(0, 0), -1);
        due(votes.oaken(0, 64), -1);
        due(votes.oaken(0, -1), -1);
        due(votes.oaken(1, 0), -1);
        of("37 trade, one stands", "bench oak 0 5 0 1;stands 5;stands 6;sits 1 0;");
        due(votes.trade(0, 0), 2);
        of("37 trade, none", "bench oak 0 5 0 1;stands 5;stands 6;");
        due(votes.trade(0, 0), -1);
        of("38 oaken, two", "bench walnut 0 3 0 2;bench pine 0 6 0 2;bench pine 0 6 0 2;stool oak 1 1 0 3;");
        due(votes.oaken(0, 0), 3);
        of("38 oaken, all", "bench pine 0 6 0 1;".repeat(8));
        due(votes.oaken(0, 0), 255);
        of("38 oaken, carried then", "bench oak 1 1 0 1;stool oak 1 1 0 1;stool pine 0 6 0 1;bench oak 1 1 0 1;");
        due(votes.oaken(0, 0), 4);
    }

    private static void walks() {
        of("39 walk", HALL);
        due(votes.walk(0, 4, 4), 0);
        due(votes.walk(0, 4, 7), 2);
        due(votes.walk(0, 4, 63), 5);
        due(votes.walk(0, 4, 3), -1);
        due(votes.walk(0, 0, 4), -1);
        due(votes.walk(0, 0, 0), -1);
        due(votes.walk(0, 64, 4), -1);
        due(votes.walk(0, 4, 64), -1);
        due(votes.walk(0, -1, 4), -1);
        due(votes.walk(0, 4, -1), -1);
        due(votes.walk(1, 4, 4), -1);
        // Carried are motions with matter 0 or matter 1, so from 1 to 2 one goes by way of 3.
        of("39 walk, by a way round", "bench oak 0 3 3 1;");
        due(votes.walk(0, 1, 2), 2);
        due(votes.walk(0, 5, 2), 3);
    }

    private static void places() {
        of("40 place", HALL);
        due(votes.place(0, 0, 3, false), 2);
        due(votes.place(0, 0, 3, true), 2);
        due(votes.place(0, 0, 0, false), 0);
        due(votes.place(0, 0, 0, true), 0);
        for (int[] wrong : new int[][] {{0, 64, 0}, {0, -1, 0}, {0, 0, 4}, {0, 0, -1}, {1, 0, 0}}) {
            due(votes.place(wrong[0], wrong[1], wrong[2], false), -1000);
            due(votes.place(wrong[0], wrong[1], wrong[2], true), -1000);
        }
        of("40 place, standing", "stool oak 0 1 0 1;sits 1 0;");
        due(votes.place(0, 0, 0, false), 8);
        due(votes.place(0, 0, 0, true), 0);
        of("40 place, of several", "bench oak 0 1 0 1;bench oak 0 1 0 1;sits 1 1;");
        due(votes.place(0, 0, 0, false), 0);
        due(votes.place(0, 0, 0, true), 1);
    }

    private static void hinges() {
        of("41 hinge", HALL);
        due(votes.hinge(0, 4, false), 5);
        due(votes.hinge(0, 0, false), 0);
        due(votes.hinge(0, 4, true), 0);
        due(votes.hinge(0, 64, false), -1);
        due(votes.hinge(0, -1, true), -1);
        due(votes.hinge(1, 0, false), -1);
        due(votes.hinge(1, 0, true), -1);
        of("41 hinge, of several", "bench oak 0 1 0 1;stool oak 5 9 0 1;chair oak 5 9 0 1;");
        due(votes.hinge(0, 0, true), 1);
        of("41 hinge, no pieces", "");
        due(votes.hinge(0, 0, true), -1);
        due(votes.hinge(0, 0, false), 0);
    }

    private static void images() {
        promise = "43 image, 44 again";
        votes = new FurnitureVotes();
        due(votes.image(0), true);
        due(votes.image(3), false);
        due(votes.image(-1), false);
        due(votes.image(HIGH), false);
        due(votes.again(1), false);
        due(Play.tell(votes, 0, -1, "damp 4;bench oak 1 2 3 4;sits 5 0;"), 0);
        due(Play.tell(votes, 1, -1, "wet;"), 0);
        due(Play.tell(votes, 2, -1, "still 3 2 1;"), 0);
        due(Play.tell(votes, 0, -1, "damp 10;"), -1);
        Play.bring(votes, Play.bytes("dry;"));
        due(votes.image(1), true);
        due(votes.again(0), true);
        due(votes.count(0) + votes.count(1) + votes.count(2), 0);
        due(votes.fault(0), 0);
        due(votes.fault(1), -1);
        due(votes.end(1), -1);
        due(votes.again(1), true);
        due(votes.fault(0), 2);
        due(votes.fault(1), 5);
        due(votes.end(5), -1);
        due(votes.text(1, -1), 1);
        due(votes.deed(1, 0, 0), 6);
        due(votes.deed(0, 0, 0), 5);
        due(votes.chamber(0, 2), 4);
        due(votes.chamber(0, 70), 5);
        due(votes.fact(0, 0, 1), 3);
        due(Play.tell(votes, 0, 0, ""), 0);
        due(Play.tell(votes, 2, 0, ""), 0);
        due(votes.chamber(0, 0), 0);
        due(votes.again(1), true);
        due(votes.chamber(0, 0), 1);
        due(votes.chamber(0, 60), 4);
        due(votes.fact(0, -1, 0), 1);
        due(votes.count(1), 1);
        due(votes.image(0), true);
        due(votes.again(2), false);
        due(votes.again(0), true);
        due(votes.chamber(0, 0), 1);
        due(votes.again(3), false);
        due(votes.again(-1), false);
    }
}
