/** The edges of votes and of sessions, deed by deed (terms 2). */
public final class SessionEdgesTest extends Edges {
    private static final String AYE = "bench oak 1 1 0 1;";
    private static final String NO = "stool oak 1 1 0 1;";
    private static final int CARRIED = 1;

    private SessionEdgesTest() {
    }

    public static void main(String[] args) {
        loud();
        waxIsLess();
        limits();
        benchAndStool();
        chair();
        table();
        carried();
        answer();
        begins();
        motion();
        sit();
        stand();
        wax();
        set();
        damp();
        night();
        cannotBe();
        stop();
        state();
        stateWhats();
        finish("SessionEdgesTest", new int[] {2}, new int[] {7, 9, 10});
    }

    /** The state behind all deeds, in a new object. */
    private static int behind(String chamber, String deeds, int what) {
        room(chamber, deeds);
        return votes.state(0, 0, votes.deed(0, NONE, 0), what);
    }

    private static int stopOf(String chamber, String deeds) {
        room(chamber, deeds);
        return votes.stop(0, 0);
    }

    private static int says(String chamber, int motion, int piece) {
        room(chamber);
        return votes.answer(0, motion, 20 + piece);
    }

    private static void loud() {
        term(2, 7, "LOUD of a PIECE on a MOTION: WEIGHTS of all who sit on it together (its LOAD)");
        room("bench oak 0 99 0 1;bench oak 0 99 0 1;");
        due(votes.answer(0, 63, 10), 0);
        room("bench oak 0 99 0 1;bench oak 0 99 0 1;" + "sits 30 0;".repeat(6));
        due(votes.answer(0, 63, 10), 180);
        due(votes.answer(0, 63, 11), 0);
        room("bench oak 0 99 0 1;bench oak 0 99 0 1;sits 1 1;sits 2 0;sits 4 1;stands 30;sits 8 0;sits 16 1;");
        due(votes.answer(0, 63, 10), 10);
        due(votes.answer(0, 63, 11), 21);
        term(2, 7, "and its AGE");
        room("bench oak 0 99 0 1;bench oak 50 99 0 1;");
        due(votes.answer(0, 63, 10), 0);
        due(votes.answer(0, 63, 11), 50);
        term(2, 7, "DAMP times its WOOD's number");
        for (int damp = 0; damp <= 9; damp++) {
            room("bench oak 0 99 0 1;stool walnut 0 99 0 1;table pine 0 99 0 1;damp " + damp + ";");
            for (int wood = 0; wood < 3; wood++) {
                due(votes.answer(0, 63, 10 + wood), damp * wood);
            }
        }
        term(2, 7, "and 3 for each MATTER of the MOTION it has an EAR for");
        room("bench oak 0 99 63 1;bench oak 0 99 0 1;bench oak 0 99 42 1;bench oak 0 99 32 1;");
        int[][] loud = {{0, 0, 0, 0, 0}, {63, 18, 0, 9, 3}, {21, 9, 0, 0, 0}, {42, 9, 0, 9, 3}, {32, 3, 0, 3, 3}, {31, 15, 0, 6, 0}};
        for (int[] row : loud) {
            for (int p = 0; p < 4; p++) {
                due(votes.answer(0, row[0], 10 + p), row[1 + p]);
            }
        }
        room("table pine 50 99 63 9;damp 9;" + "sits 30 0;".repeat(6));
        due(votes.answer(0, 63, 10), 180 + 50 + 18 + 18);
    }

    private static void waxIsLess() {
        term(2, 10, "less 4 for each WAX, 0 at least");
        for (int waxes = 0; waxes <= 9; waxes++) {
            int least = 4 * waxes + 1;
            room("bench oak " + least + " 1 0 1;bench oak " + (least - 1) + " 1 0 2;",
                "wax 0;".repeat(waxes) + "wax 1;".repeat(waxes) + "motion 0;");
            due(votes.state(0, 0, 2 * waxes + 1, 4), 1);
        }
        // A piece that was waxed far below 0 is as loud as its sum tells when the wax goes: 0 is no store.
        String nights = "wax 0;".repeat(9) + "night;".repeat(9) + "motion 0;";
        due(behind("bench oak 0 9 0 1;", nights, CARRIED), 1);
        due(behind("bench oak 0 10 0 1;", nights, CARRIED), 0);
        due(behind("bench oak 0 1 0 1;stands 30;", "wax 0;".repeat(8) + "sit 0 0;motion 0;", CARRIED), 0);
        due(behind("bench oak 0 1 0 1;stands 30;stands 3;", "wax 0;".repeat(8) + "sit 0 0;sit 1 0;motion 0;", CARRIED), 1);
    }

    private static void limits() {
        term(2, 7, "It SOUNDS, if that is LIMIT or more");
        for (int limit : new int[] {1, 2, 49, 50}) {
            due(says("bench oak " + limit + " " + limit + " 0 1;", 0, 0), 1);
            due(says("bench oak " + (limit - 1) + " " + limit + " 0 1;", 0, 0), 0);
        }
        due(says("bench oak 50 99 63 1;sits 30 0;", 63, 0), 0);
        due(says("bench oak 50 99 63 1;sits 30 0;sits 1 0;", 63, 0), 1);
        due(says("bench oak 50 99 63 1;sits 30 0;sits 2 0;", 63, 0), 1);
        term(2, 7, "PIECES answer by numbers");
        room("table oak 0 1 0 1;" + AYE + "table oak 0 1 0 1;table oak 0 1 0 1;" + NO + "table oak 0 1 0 1;");
        int[] said = {0, 1, 2, 0, 2, 1};
        for (int p = 0; p < said.length; p++) {
            due(votes.answer(0, 0, 20 + p), said[p]);
        }
    }

    private static void benchAndStool() {
        term(2, 7, "a BENCH says AYE, if it SOUNDS, else nothing");
        due(says("bench oak 5 5 0 1;", 0, 0), 1);
        due(says("bench oak 4 5 0 1;", 0, 0), 0);
        due(says("bench oak 4 5 0 1;sits 1 0;", 0, 0), 1);
        term(2, 7, "a STOOL says NO, if it SOUNDS, else nothing");
        due(says("stool oak 5 5 0 1;", 0, 0), 2);
        due(says("stool oak 4 5 0 1;", 0, 0), 0);
        due(says("stool oak 4 5 0 1;sits 1 0;", 0, 0), 2);
    }

    private static void chair() {
        term(2, 7, "a CHAIR says AYE, if it SOUNDS, else NO, and nothing, if nobody sits on it");
        due(says("chair oak 4 5 0 1;sits 1 0;", 0, 0), 1);
        due(says("chair oak 3 5 0 1;sits 1 0;", 0, 0), 2);
        due(says("chair oak 50 1 0 1;", 0, 0), 0);
        due(says("chair oak 0 99 0 1;", 0, 0), 0);
        due(says("bench oak 0 1 0 1;chair oak 50 1 0 1;sits 30 0;stands 30;", 0, 1), 0);
        room("chair oak 9 5 0 4;sits 1 0;", "motion 0;stand 0;motion 0;sit 0 0;motion 0;");
        int[] ayes = {0, 4, 4, 0, 0, 4};
        for (int n = 0; n < ayes.length; n++) {
            due(votes.state(0, 0, n, 4), ayes[n]);
            due(votes.state(0, 0, n, 5), 0);
        }
    }

    private static void table() {
        term(2, 7, "a TABLE says NO, if of PIECES ahead of it AYES have more VOICES than NOES, AYE, if fewer, else nothing");
        String table = "table oak 0 1 0 9;";
        due(says(table, 0, 0), 0);
        due(says(table + AYE, 0, 0), 0);
        due(says(AYE + table, 0, 1), 2);
        due(says(NO + table, 0, 1), 1);
        due(says(AYE + NO + table, 0, 2), 0);
        due(says("bench oak 1 1 0 5;stool oak 1 1 0 4;" + table, 0, 2), 2);
        due(says("bench oak 1 1 0 4;stool oak 1 1 0 5;" + table, 0, 2), 1);
        due(says("bench oak 1 1 0 5;stool oak 1 1 0 5;" + table, 0, 2), 0);
        due(says("bench oak 0 1 0 5;stool oak 0 1 0 4;" + table, 0, 2), 0);
        due(says("table oak 50 1 63 9;sits 30 0;", 63, 0), 0);
        due(says(AYE + table + "table oak 0 1 0 8;", 0, 2), 1);
        due(says(AYE + table + "table oak 0 1 0 8;table oak 0 1 0 1;", 0, 3), 0);
    }

    private static void carried() {
        term(2, 7, "A PIECE that is OVER says nothing");
        due(behind(NO + AYE, "motion 0;", 5), 1);
        due(behind(NO + AYE, "motion 0;motion 0;", 5), 0);
        due(behind(NO + AYE, "motion 0;motion 0;", 4), 1);
        due(behind(NO + AYE, "motion 0;motion 0;", CARRIED), 1);
        due(behind(NO + "table oak 0 1 0 1;", "motion 0;motion 0;", 4), 0);
        due(behind(NO + AYE, "motion 0;motion 0;set 0;motion 0;", 5), 1);
        term(2, 7, "A MOTION is CARRIED, if AYES have more VOICES than NOES");
        String[] rooms = {"", AYE, NO, AYE + NO, AYE + AYE + NO, AYE + NO + NO, "bench oak 0 1 0 9;",
            "bench oak 1 1 0 9;stool oak 1 1 0 9;", "bench oak 1 1 0 9;stool oak 1 1 0 8;",
            "bench oak 1 1 0 9;".repeat(8), "stool oak 1 1 0 9;".repeat(8),
            "bench oak 1 1 0 9;".repeat(4) + "stool oak 1 1 0 9;".repeat(4)};
        int[] carried = {0, 1, 0, 0, 1, 0, 0, 0, 1, 1, 0, 0};
        for (int i = 0; i < rooms.length; i++) {
            room(rooms[i]);
            due(votes.answer(0, 0, 0), carried[i]);
        }
    }

    private static void answer() {
        promise(7, "On a MOTION, what 0: 1 if it is CARRIED, else 0");
        room("bench oak 0 3 32 1;");
        due(votes.answer(0, 31, 0), 0);
        due(votes.answer(0, 32, 0), 1);
        due(votes.answer(0, 63, 0), 1);
        due(votes.answer(0, 0, 0), 0);
        promise(7, "1, 2: VOICES of AYES, of NOES");
        room("");
        due(votes.answer(0, 0, 1), 0);
        due(votes.answer(0, 0, 2), 0);
        room("bench oak 1 1 0 9;".repeat(8));
        due(votes.answer(0, 0, 1), 72);
        due(votes.answer(0, 0, 2), 0);
        room("stool oak 1 1 0 9;".repeat(7) + "table oak 0 1 0 9;");
        due(votes.answer(0, 0, 1), 9);
        due(votes.answer(0, 0, 2), 63);
        promise(7, "10 + p: LOUD of a PIECE");
        room("bench oak 7 99 0 1;" + AYE.repeat(6) + "table oak 8 99 0 1;");
        due(votes.answer(0, 0, 10), 7);
        due(votes.answer(0, 0, 17), 8);
        promise(7, "20 + p: what it says: 0 nothing, 1 AYE, 2 NO");
        room(AYE + "bench oak 0 1 0 1;".repeat(6) + "stool oak 8 1 0 1;");
        due(votes.answer(0, 0, 20), 1);
        due(votes.answer(0, 0, 21), 0);
        due(votes.answer(0, 0, 26), 0);
        due(votes.answer(0, 0, 27), 2);
        promise(7, "NONE: there is none such (of any), another MOTION, or for another what");
        for (int what : new int[] {LOW, -1, 3, 9, 18, 19, 28, 29, 30, 100, HIGH}) {
            due(votes.answer(0, 0, what), NONE);
        }
        for (int motion : NO_MOTIONS) {
            for (int what : new int[] {0, 1, 2, 10, 20}) {
                due(votes.answer(0, motion, what), NONE);
            }
        }
        for (int c : new int[] {LOW, -1, 1, 2, HIGH}) {
            due(votes.answer(c, 0, 0), NONE);
        }
        room("bench oak 7 99 0 1;");
        due(votes.answer(0, 0, 11), NONE);
        due(votes.answer(0, 0, 21), NONE);
    }

    private static void begins() {
        term(2, 10, "A SESSION of a CHAMBER begins with all as told, nothing OVER");
        room(NO + "bench pine 5 9 0 1;sits 4 0;stands 2;damp 6;", "wet;wax 1;night;motion 0;sit 1 1;");
        int[] whats = {0, 1, 2, 3, 4, 5, 10, 11, 20, 21, 30, 31, 40, 41};
        int[] told = {0, 0, 6, 0, 0, 0, 1, 5, 0, 0, 4, 0, 0, 8};
        int[] later = {1, 0, 7, 1, 1, 1, 2, 7, 0, 0, 0, 2, 8, 1};
        for (int round = 0; round < 2; round++) {
            for (int i = 0; i < whats.length; i++) {
                due(votes.state(0, 0, 0, whats[i]), told[i]);
                due(votes.state(0, 0, 5, whats[i]), later[i]);
            }
            // What a session does stays in it: the chamber is as told.
            due(votes.answer(0, 0, 2), 1);
            due(votes.chamber(0, 2), 6);
            due(votes.chamber(0, 80), 0);
            due(votes.chamber(0, 31), 5);
        }
    }

    private static void motion() {
        term(2, 10, "motion: all PIECES answer; then each STOOL that said NO goes OVER: all who sit on it stand");
        room(NO + NO + "stool oak 0 1 0 1;table oak 0 1 0 3;" + "sits 1 0;sits 1 1;sits 1 0;sits 1 3;", "motion 0;motion 0;");
        due(votes.state(0, 0, 1, 3), 3);
        due(votes.state(0, 0, 1, 4), 3);
        due(votes.state(0, 0, 1, 5), 2);
        due(votes.state(0, 0, 1, 1), 1);
        int[] seats = {8, 8, 8, 3};
        int[] loads = {0, 0, 0, 1};
        for (int i = 0; i < 4; i++) {
            due(votes.state(0, 0, 1, 40 + i), seats[i]);
            due(votes.state(0, 0, 1, 30 + i), loads[i]);
        }
        due(votes.state(0, 0, 2, 4), 0);
        due(votes.state(0, 0, 2, 5), 0);
        due(votes.state(0, 0, 2, 3), 3);
        due(behind("stool oak 1 1 0 1;".repeat(8), "motion 0;", 3), 255);
        due(behind("stool oak 0 1 0 1;".repeat(8), "motion 0;", 3), 0);
        room("stool oak 0 1 0 1;".repeat(8) + "sits 1 7;".repeat(6), "motion 0;");
        due(votes.state(0, 0, 1, 3), 128);
        due(votes.state(0, 0, 1, 37), 0);
        for (int w = 0; w < 6; w++) {
            due(votes.state(0, 0, 0, 40 + w), 7);
            due(votes.state(0, 0, 1, 40 + w), 8);
        }
        // A chair or a table that says NO stays.
        due(behind("chair oak 0 9 0 1;sits 1 0;", "motion 0;", 5), 1);
        due(behind("chair oak 0 9 0 1;sits 1 0;", "motion 0;", 3), 0);
        due(behind("chair oak 0 9 0 1;sits 1 0;", "motion 0;", 40), 0);
        due(behind(AYE + "table oak 0 9 0 1;sits 1 1;", "motion 0;", 5), 1);
        due(behind(AYE + "table oak 0 9 0 1;sits 1 1;", "motion 0;", 3), 0);
        due(behind(AYE + "table oak 0 9 0 1;sits 1 1;", "motion 0;", 40), 1);
    }

    private static void sit() {
        term(2, 9, "sit: one sits on a PIECE that is not OVER (he may have sat elsewhere; not where he sits already)");
        String room = "stool oak 1 1 0 1;bench oak 0 9 0 1;table oak 0 9 0 1;sits 1 1;stands 2;";
        due(stopOf(room, "sit 0 1;"), 0);
        due(stopOf(room, "sit 0 0;sit 0 0;"), 1);
        due(stopOf(room, "sit 0 0;sit 0 1;sit 0 2;sit 0 1;"), 4);
        due(stopOf(room, "sit 1 1;sit 1 1;"), 1);
        due(stopOf(room, "sit 1 2;stand 1;sit 1 2;"), 3);
        due(stopOf(room, "motion 0;sit 0 0;"), 1);
        due(stopOf(room, "motion 0;sit 0 2;set 0;sit 0 0;"), 4);
        // One who was thrown off may sit elsewhere, and there again once it is set up.
        due(stopOf(room, "sit 0 0;motion 0;sit 0 0;"), 2);
        due(stopOf(room, "sit 0 0;motion 0;sit 0 1;set 0;sit 0 0;"), 5);
        due(behind(room, "sit 0 0;", 30), 1);
        due(behind(room, "sit 0 0;", 31), 0);
        due(behind(room, "sit 0 0;", 40), 0);
        due(behind(room, "sit 1 1;", 31), 3);
    }

    private static void stand() {
        term(2, 9, "stand: one who sits stands");
        String room = "stool oak 1 1 0 1;sits 1 0;stands 2;";
        due(stopOf(room, "stand 0;"), 1);
        due(stopOf(room, "stand 0;stand 0;"), 1);
        due(stopOf(room, "stand 1;"), 0);
        due(stopOf(room, "motion 0;stand 0;"), 1);
        due(behind(room, "stand 0;", 40), 8);
        due(behind(room, "stand 0;", 30), 0);
    }

    private static void wax() {
        term(2, 9, "wax: WAX of a PIECE is 1 more; not if it is 9");
        due(stopOf(AYE + AYE, "wax 0;".repeat(9)), 9);
        due(stopOf(AYE + AYE, "wax 0;".repeat(10)), 9);
        due(stopOf(AYE + AYE, "wax 0;".repeat(9) + "wax 1;".repeat(10)), 18);
        due(stopOf(AYE + AYE, "wax 0;".repeat(9) + "night;wax 0;wax 0;"), 11);
        due(behind(AYE + AYE, "wax 0;", 20), 1);
        due(behind(AYE + AYE, "wax 0;", 21), 0);
        due(behind(AYE + AYE, "wax 0;".repeat(9), 20), 9);
        due(behind(AYE + AYE, "wax 0;".repeat(9) + "night;wax 0;", 20), 9);
        due(behind(NO, "motion 0;wax 0;", 20), 1);
        due(stopOf(NO, "motion 0;" + "wax 0;".repeat(10)), 10);
    }

    private static void set() {
        term(2, 9, "set: a PIECE that is OVER is so no more");
        due(stopOf(NO, "set 0;"), 0);
        due(stopOf(NO, "motion 0;set 0;"), 2);
        due(stopOf(NO, "motion 0;set 0;set 0;"), 2);
        due(stopOf(NO + NO, "motion 0;set 1;set 1;"), 2);
        due(behind(NO + NO, "motion 0;set 1;", 3), 1);
        due(behind(NO + NO, "motion 0;set 1;set 0;", 3), 0);
        due(behind(NO + NO, "motion 0;set 1;motion 0;", 3), 3);
        due(behind(NO + "sits 1 0;", "motion 0;set 0;", 40), 8);
        due(stopOf(AYE, "motion 0;set 0;"), 1);
        due(behind("stool oak 1 1 0 1;".repeat(8), "motion 0;set 7;", 3), 127);
    }

    private static void damp() {
        term(2, 9, "wet: DAMP is 1 more, dry: 1 less; not if it is 9, 0");
        for (int damp = 0; damp <= 9; damp++) {
            String room = "damp " + damp + ";";
            due(stopOf(room, "wet;".repeat(10)), 9 - damp);
            due(stopOf(room, "dry;".repeat(10)), damp);
            due(behind(room, "wet;".repeat(9 - damp), 2), 9);
            due(behind(room, "dry;".repeat(damp), 2), 0);
        }
        due(stopOf("damp 9;", "dry;wet;wet;"), 2);
        due(stopOf("damp 0;", "wet;dry;dry;"), 2);
        due(behind("bench walnut 0 9 0 1;damp 8;", "motion 0;wet;motion 0;", CARRIED), 1);
    }

    private static void night() {
        term(2, 10, "night: each PIECE is 1 older (PINE 2), 99 at most, its WAX 1 less, 0 at least");
        String room = "bench oak 50 1 0 1;stool walnut 50 1 0 1;chair pine 50 1 0 1;table pine 49 1 0 1;bench pine 0 1 0 1;";
        room(room, "night;".repeat(40));
        for (int n = 0; n <= 40; n++) {
            due(votes.state(0, 0, n, 10), 50 + n);
            due(votes.state(0, 0, n, 11), 50 + n);
            due(votes.state(0, 0, n, 12), Math.min(99, 50 + 2 * n));
            due(votes.state(0, 0, n, 13), Math.min(99, 49 + 2 * n));
            due(votes.state(0, 0, n, 14), 2 * n);
            due(votes.state(0, 0, n, 20), 0);
        }
        room(room, "wax 1;wax 1;wax 4;night;night;night;night;");
        int[] first = {0, 1, 2, 2, 1, 0, 0, 0};
        int[] second = {0, 0, 0, 1, 0, 0, 0, 0};
        for (int n = 0; n < first.length; n++) {
            due(votes.state(0, 0, n, 21), first[n]);
            due(votes.state(0, 0, n, 24), second[n]);
            due(votes.state(0, 0, n, 2), 3);
        }
        // What is OVER grows older, too, and loses its wax.
        due(behind("stool pine 1 1 0 1;", "motion 0;wax 0;wax 0;night;", 10), 3);
        due(behind("stool pine 1 1 0 1;", "motion 0;wax 0;wax 0;night;", 20), 1);
        due(behind("stool pine 1 1 0 1;", "motion 0;wax 0;wax 0;night;", 3), 1);
        due(stopOf("", "night;".repeat(40)), 40);
    }

    private static void cannotBe() {
        term(2, 9, "A DEED can't be, if there is no such PERSON, PIECE, or it is not as said");
        for (int pieces = 0; pieces <= 8; pieces++) {
            for (int p = 0; p <= 7; p++) {
                String room = NO.repeat(pieces) + "stands 1;";
                due(stopOf(room, "wax " + p + ";"), p < pieces ? 1 : 0);
                due(stopOf(room, "sit 0 " + p + ";"), p < pieces ? 1 : 0);
                due(stopOf(room, "motion 0;set " + p + ";"), p < pieces ? 2 : 1);
                due(stopOf(room, "set " + p + ";"), 0);
            }
        }
        for (int people = 0; people <= 6; people++) {
            for (int w = 0; w <= 5; w++) {
                String room = AYE + AYE + "sits 1 0;".repeat(people);
                due(stopOf(room, "stand " + w + ";"), w < people ? 1 : 0);
                due(stopOf(room, "sit " + w + " 1;"), w < people ? 1 : 0);
                due(stopOf(room, "sit " + w + " 0;"), 0);
            }
        }
        // A motion, a night can always be.
        due(stopOf("", "motion 63;night;"), 2);
        due(behind("", "motion 63;night;", 0), 1);
        due(behind("", "motion 63;night;", CARRIED), 0);
    }

    private static void stop() {
        term(2, 9, "STOP: the first DEED that can't be, else how many there are");
        due(stopOf("", ""), 0);
        due(stopOf("", "wax 0;wet;"), 0);
        due(stopOf("", "wet;wax 0;wet;wax 0;"), 1);
        due(stopOf("", "wet;dry;".repeat(20)), 40);
        due(stopOf("", "wet;dry;".repeat(19) + "wet;wax 0;"), 39);
        promise(9, "STOP");
        room("damp 9;", "wet;");
        due(Play.tell(votes, 0, NONE, "damp 8;"), 1);
        due(Play.tell(votes, 1, NONE, "wet;wet;"), 1);
        due(votes.stop(0, 0), 0);
        due(votes.stop(1, 0), 1);
        due(votes.stop(0, 1), 0);
        due(votes.stop(1, 1), 1);
        promise(9, "NONE: there is none such (of either)");
        for (int i : new int[] {LOW, -2, -1, 2, HIGH}) {
            due(votes.stop(i, 0), NONE);
            due(votes.stop(0, i), NONE);
            due(votes.stop(i, i), NONE);
        }
        votes = new FurnitureVotes();
        tell(1, "");
        due(votes.stop(0, 0), NONE);
        room("");
        due(votes.stop(0, 0), NONE);
    }

    private static void state() {
        term(2, 10, "A STATE is behind the first n DEEDS, n up to STOP");
        room("damp 7;", "wet;wet;wet;dry;");
        int[] damps = {7, 8, 9, -2, -2, -2};
        for (int n = 0; n < damps.length; n++) {
            due(votes.state(0, 0, n, 2), damps[n]);
        }
        room("damp 0;", "wet;dry;".repeat(20));
        due(votes.state(0, 0, 39, 2), 1);
        due(votes.state(0, 0, 40, 2), 0);
        due(votes.state(0, 0, 41, 2), -2);
        room("", "");
        due(votes.state(0, 0, 0, 2), 3);
        due(votes.state(0, 0, 1, 2), -2);
        promise(10, "Of a STATE, what 0: MOTIONS put, 1: how many were CARRIED, 2: DAMP, 3: PIECES that are OVER (bits)");
        room("bench oak 0 3 1 2;" + "stool oak 0 3 2 1;damp 8;", "motion 1;wet;motion 2;motion 3;motion 0;");
        int[][] states = {{0, 0, 8, 0}, {1, 1, 8, 0}, {1, 1, 9, 0}, {2, 1, 9, 2}, {3, 2, 9, 2}, {4, 2, 9, 2}};
        for (int n = 0; n < states.length; n++) {
            for (int what = 0; what < 4; what++) {
                due(votes.state(0, 0, n, what), states[n][what]);
            }
        }
        due(behind(AYE, "motion 0;".repeat(40), 0), 40);
        due(behind(AYE, "motion 0;".repeat(40), 1), 40);
        due(behind("bench oak 0 1 0 1;".repeat(7) + NO, "motion 0;", 3), 128);
        promise(10, "4, 5: VOICES of AYES, of NOES at the latest MOTION (0 ahead of any)");
        room("bench oak 0 3 1 2;stool oak 0 3 2 1;", "night;motion 1;wet;motion 2;motion 3;night;motion 0;");
        int[] ayes = {0, 0, 2, 2, 0, 2, 2, 0};
        int[] noes = {0, 0, 0, 0, 1, 0, 0, 0};
        for (int n = 0; n < ayes.length; n++) {
            due(votes.state(0, 0, n, 4), ayes[n]);
            due(votes.state(0, 0, n, 5), noes[n]);
        }
    }

    private static void stateWhats() {
        String room = "bench oak 0 99 0 1;" + "bench pine 50 99 0 1;".repeat(7) + "sits 1 0;" + "sits 30 7;".repeat(4) + "stands 9;";
        promise(10, "10 + p, 20 + p, 30 + p: AGE, WAX, LOAD of a PIECE");
        room(room, "wax 0;wax 7;night;wax 7;wax 7;sit 5 7;");
        int[] whats = {10, 17, 20, 27, 30, 37, 36};
        int[] dues = {1, 52, 0, 2, 1, 129, 0};
        for (int i = 0; i < whats.length; i++) {
            due(votes.state(0, 0, 6, whats[i]), dues[i]);
        }
        promise(10, "40 + w: SEAT (8: stands)");
        due(votes.state(0, 0, 5, 40), 0);
        due(votes.state(0, 0, 5, 41), 7);
        due(votes.state(0, 0, 5, 45), 8);
        due(votes.state(0, 0, 6, 45), 7);
        promise(10, "-2: there is no such STATE, or for another what");
        for (int what : new int[] {LOW, -10, -1, 6, 7, 8, 9, 18, 19, 28, 29, 38, 39, 46, 47, 48, 49, 50, 60, 100, HIGH}) {
            due(votes.state(0, 0, 0, what), -2);
            due(votes.state(0, 0, 6, what), -2);
        }
        for (int n : new int[] {LOW, -2, -1, 7, 40, 41, HIGH}) {
            due(votes.state(0, 0, n, 0), -2);
        }
        for (int i : new int[] {LOW, -1, 1, 2, HIGH}) {
            due(votes.state(i, 0, 0, 0), -2);
            due(votes.state(0, i, 0, 0), -2);
        }
        room("", "");
        for (int what : new int[] {10, 20, 30, 40}) {
            due(votes.state(0, 0, 0, what), -2);
        }
    }
}
