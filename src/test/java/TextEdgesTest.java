/** The edges of what is told: the tape, texts and their faults, what is read back, images (terms 1). */
public final class TextEdgesTest extends Edges {
    private static final String PIECE = "bench oak 0 1 0 1;";
    private static final String[] KINDS = {"bench", "stool", "chair", "table"};
    private static final String[] WOODS = {"oak", "walnut", "pine"};
    private static final String[] EMPTY_DEEDS = {"wet", "dry", "night"};

    private TextEdgesTest() {
    }

    public static void main(String[] args) {
        newObject();
        feed();
        end();
        text();
        refusedText();
        fault();
        pieces();
        people();
        dampAndWax();
        kindsAndWoods();
        sessionsAndLogs();
        tapeAndTokens();
        words();
        chamberText();
        sessionText();
        logText();
        laterOnes();
        firstFault();
        otherFaults();
        lostSeats();
        rooms();
        chamber();
        deed();
        fact();
        count();
        image();
        again();
        finish("TextEdgesTest", new int[] {1}, new int[] {1, 2, 3, 4, 5, 6, 8, 19, 42, 43, 44});
    }

    private static void newObject() {
        promise(1, "No CHAMBERS, SESSIONS, LOGS");
        room(PIECE, "wet;");
        tell(2, "still 0 0 0;");
        votes = new FurnitureVotes();
        for (int sort = 0; sort < 3; sort++) {
            due(votes.count(sort), 0);
        }
        due(votes.end(1), NONE);
        due(votes.fault(0), 0);
        due(votes.fault(1), NONE);
        noChamber(0);
        noSession(0);
        noLog(0);
        promise(1, "no images");
        for (int k = 0; k < 3; k++) {
            due(votes.again(k), false);
        }
    }

    /** All that asks for a chamber answers that there is none such, whatever else is asked. */
    private static void noChamber(int c) {
        for (int k = -1; k <= 0; k++) {
            due(votes.chamber(c, k), NONE);
            due(votes.answer(c, 0, k), NONE);
            due(votes.stop(c, k), NONE);
            due(votes.state(c, k, 0, 0), -2);
            due(votes.carried(c, k), NONE);
            due(votes.moves(c, 0, k), NONE);
            due(votes.waxed(c, 0, k == 0, k), NONE);
            due(votes.turn(c, k), NONE);
            due(votes.nearest(c, k), NONE);
            due(votes.lobby(c, 0, 0, k == 0), -2);
            due(votes.power(c, k), NONE);
            due(votes.weather(c, 0, 0, 0, k == 0), NONE);
            due(votes.drawn(c, 0, 0, k), -2);
            due(votes.hush(c, 0, k), NONE);
            due(votes.wake(c, 0, k), NONE);
            due(votes.damps(c, k), NONE);
            due(votes.tips(c, 0, k), NONE);
            due(votes.weighty(c, k), NONE);
            due(votes.worded(c, k), NONE);
            due(votes.clear(c, k), NONE);
            due(votes.greedy(c, 0, k), -1000);
            due(votes.agenda(c, 0, 0, 0, k == 0), NONE);
            due(votes.odds(c, 0, k == 0), NONE);
            due(votes.weigh(c, k), NONE);
            due(votes.after(c, k, 0), -2);
            due(votes.kin(c, 0, k), NONE);
            due(votes.trade(c, k), NONE);
            due(votes.oaken(c, k), NONE);
            due(votes.walk(c, 0, k), NONE);
            due(votes.place(c, 0, k, k == 0), -1000);
            due(votes.hinge(c, 0, k == 0), NONE);
        }
    }

    private static void noSession(int s) {
        due(votes.deed(s, NONE, 0), -2);
        due(votes.deed(s, 0, 0), -2);
        due(votes.stop(0, s), NONE);
        due(votes.state(0, s, 0, 0), -2);
        due(votes.after(0, s, 0), -2);
    }

    private static void noLog(int l) {
        due(votes.fact(l, NONE, 0), -2);
        due(votes.fact(l, 0, 0), -2);
        due(votes.fits(l, 0), -2);
        due(votes.ask(l, 0), NONE);
        due(votes.bears(l, 0, false), NONE);
    }

    private static void feed() {
        promise(2, "The tape: twenty bytes come behind it, of each number the highest first: how many it has");
        votes = new FurnitureVotes();
        due(votes.feed(0x20202064, 0x616D7020, 0x343B6461, 0x6D702035, 0x3B64616D), 20);
        due(votes.feed(0x70203720, 0x0A3B2020, 0x0A0A0A0A, 0x20202020, 0x20202020), 40);
        due(votes.text(0, NONE), 0);
        due(votes.chamber(0, 2), 7);
        due(votes.feed(0x64616D70, 0x20363B78, 0x78787878, 0x78787878, 0x78787878), 20);
        due(votes.end(7), 7);
        due(votes.feed(0x64616D70, 0x20383B20, 0x20202020, 0x20202020, 0x20202020), 27);
        due(votes.text(0, 0), 0);
        due(votes.chamber(0, 2), 8);
        due(votes.feed(-1, -1, -1, -1, -1), 20);
        due(votes.text(0, 0), NONE);
        due(votes.fault(1), 0);
        due(votes.feed(0x20202020, 0x202020E9, 0, 0, 0), 20);
        due(votes.text(0, 0), NONE);
        due(votes.fault(1), 7);
        promise(2, "NONE, and nothing comes, if there would be more than 600");
        fillTape(600);
        due(votes.feed(0, 0, 0, 0, 0), NONE);
        due(votes.end(601), NONE);
        due(votes.text(0, NONE), 0);
        fillTape(581);
        due(votes.feed(0, 0, 0, 0, 0), NONE);
        due(votes.end(582), NONE);
        due(votes.end(581), 581);
        due(votes.text(0, NONE), 0);
        fillTape(580);
        due(votes.feed(0, 0, 0, 0, 0), 600);
        due(votes.text(0, NONE), NONE);
        due(votes.fault(1), 580);
        due(votes.feed(0, 0, 0, 0, 0), 20);
    }

    /** A new object whose tape has so many blanks. */
    private static void fillTape(int length) {
        votes = new FurnitureVotes();
        for (int i = 1; i <= 30; i++) {
            due(votes.feed(0x20202020, 0x20202020, 0x20202020, 0x20202020, 0x20202020), 20 * i);
        }
        due(votes.end(length), length);
    }

    private static void end() {
        promise(3, "The tape has its first n bytes alone: n");
        fillTape(600);
        int[] lengths = {600, 599, 20, 1, 0, 0};
        for (int n : lengths) {
            due(votes.end(n), n);
            due(votes.end(n + 1), NONE);
        }
        due(votes.feed(0x64616D70, 0x20373B78, 0, 0, 0), 20);
        due(votes.end(7), 7);
        due(votes.text(0, NONE), 0);
        due(votes.chamber(0, 2), 7);
        promise(3, "NONE if it has not so many, or n is below 0");
        votes = new FurnitureVotes();
        due(votes.end(0), 0);
        for (int n : new int[] {1, 20, 600, 601, HIGH, -1, -20, LOW}) {
            due(votes.end(n), NONE);
        }
        due(votes.feed(0x64616D70, 0x20373B20, 0x20202020, 0x20202020, 0x20202020), 20);
        for (int n : new int[] {21, 40, 600, HIGH, -1, LOW}) {
            due(votes.end(n), NONE);
        }
        due(votes.end(20), 20);
        due(votes.text(0, NONE), 0);
        due(votes.chamber(0, 2), 7);
    }

    private static void text() {
        promise(4, "The tape is taken (and is empty then) as a text of a sort");
        String[] texts = {"damp 3;", "wet;", "still 0 0 0;"};
        for (int sort = 0; sort < 3; sort++) {
            for (int other = 0; other < 3; other++) {
                votes = new FurnitureVotes();
                due(Play.tell(votes, sort, NONE, texts[other]), sort == other ? 0 : NONE);
                due(votes.end(1), NONE);
                due(votes.count(sort), sort == other ? 1 : 0);
            }
        }
        promise(4, "a further one (at NONE)");
        for (int sort = 0; sort < 3; sort++) {
            votes = new FurnitureVotes();
            due(Play.tell(votes, sort, NONE, texts[sort]), 0);
            due(Play.tell(votes, sort, NONE, texts[sort]), 1);
            due(votes.count(sort), 2);
        }
        promise(4, "or in the place of one: its number");
        room("damp 7;" + PIECE + "stands 4;");
        due(Play.tell(votes, 0, NONE, "damp 8;"), 1);
        due(Play.tell(votes, 0, 0, ""), 0);
        due(votes.chamber(0, 0), 0);
        due(votes.chamber(0, 1), 0);
        due(votes.chamber(0, 2), 3);
        due(votes.chamber(0, 10), NONE);
        due(votes.chamber(0, 70), NONE);
        due(votes.chamber(1, 2), 8);
        due(Play.tell(votes, 0, 1, "damp 9;"), 1);
        due(votes.chamber(1, 2), 9);
        due(votes.count(0), 2);
        tell(1, "wet;wet;");
        due(Play.tell(votes, 1, 0, "dry;"), 0);
        due(votes.deed(0, NONE, 0), 1);
        due(votes.deed(0, 1, 0), -2);
        tell(2, "still 0 0 0;still 0 0 0;");
        due(Play.tell(votes, 2, 0, "sounds 1 0 0;"), 0);
        due(votes.fact(0, NONE, 0), 1);
        due(votes.fits(0, 0), 3);
        promise(4, "NONE: a FAULT");
        for (int sort = 0; sort < 3; sort++) {
            votes = new FurnitureVotes();
            due(Play.tell(votes, sort, NONE, "x"), NONE);
            due(votes.count(sort), 0);
            due(Play.tell(votes, sort, NONE, texts[sort]), 0);
            due(Play.tell(votes, sort, NONE, texts[sort] + ";"), NONE);
            due(votes.count(sort), 1);
        }
        room("damp 7;");
        due(Play.tell(votes, 0, 0, "damp 1;damp 10;"), NONE);
        due(votes.chamber(0, 2), 7);
        due(votes.end(1), NONE);
    }

    private static void refusedText() {
        promise(4, "-2: there is none such");
        for (int sort = 0; sort < 3; sort++) {
            votes = new FurnitureVotes();
            for (int at : new int[] {0, 1, 2, -2, LOW, HIGH}) {
                due(votes.text(sort, at), -2);
            }
            due(votes.text(sort, NONE), 0);
            due(votes.text(sort, 1), -2);
            due(votes.text(sort, NONE), 1);
            due(votes.text(sort, 2), -2);
            due(votes.text(sort, -2), -2);
            due(votes.text(sort, 1), 1);
        }
        promise(4, "there are as many as may be");
        for (int sort = 0; sort < 3; sort++) {
            votes = new FurnitureVotes();
            due(votes.text(sort, NONE), 0);
            due(votes.text(sort, NONE), 1);
            due(votes.text(sort, NONE), -2);
            due(votes.count(sort), 2);
            due(votes.text((sort + 1) % 3, NONE), 0);
        }
        promise(4, "or no such sort");
        votes = new FurnitureVotes();
        for (int sort : new int[] {LOW, -2, -1, 3, 4, HIGH}) {
            due(votes.text(sort, NONE), -2);
            due(votes.text(sort, 0), -2);
            due(votes.fault(0), 0);
        }
        promise(4, "(no text is read then, FAULT 0)");
        int[][] refused = {{0, 1}, {0, -2}, {1, 0}, {2, 0}, {3, NONE}, {-1, NONE}, {-1, 0}};
        room("damp 7;");
        for (int[] asked : refused) {
            due(Play.tell(votes, 0, 0, "damp 10;"), NONE);
            due(votes.fault(0), 2);
            due(votes.fault(1), 5);
            due(Play.tell(votes, asked[0], asked[1], "damp 10;"), -2);
            due(votes.fault(0), 0);
            due(votes.fault(1), NONE);
            due(votes.end(1), NONE);
            due(votes.chamber(0, 2), 7);
        }
    }

    private static void fault() {
        promise(5, "Of the latest text(), what 0: the FAULT, 0 without");
        votes = new FurnitureVotes();
        due(votes.fault(0), 0);
        String[] texts = {"x", "damp 10;", "stands 1;".repeat(7), "sits 1 0;", ""};
        int[] faults = {1, 2, 3, 4, 0};
        int[] places = {0, 5, 54, 9, NONE};
        for (int i = 0; i < texts.length; i++) {
            Play.tell(votes, 0, NONE, texts[i]);
            due(votes.fault(0), faults[i]);
            due(votes.feed(0, 0, 0, 0, 0), 20);
            due(votes.end(0), 0);
            due(votes.fault(0), faults[i]);
        }
        promise(5, "1: its place, NONE without");
        votes = new FurnitureVotes();
        due(votes.fault(1), NONE);
        for (int i = 0; i < texts.length; i++) {
            Play.tell(votes, 0, NONE, texts[i]);
            due(votes.fault(1), places[i]);
        }
        promise(5, "NONE for another what");
        Play.tell(votes, 0, NONE, "damp 10;");
        for (int what : NO_NUMBERS) {
            due(votes.fault(what), NONE);
        }
    }

    private static void pieces() {
        term(1, 6, "A CHAMBER has PIECES, at most 8, from 0 on");
        for (int pieces = 0; pieces <= 8; pieces++) {
            room(PIECE.repeat(pieces));
            due(votes.chamber(0, 0), pieces);
            for (int p = 0; p <= 9; p++) {
                due(votes.chamber(0, 40 + p), p < pieces ? 1 : NONE);
            }
        }
        faulty(0, PIECE.repeat(9), 3, 8 * PIECE.length());
        term(1, 6, "a KIND, a WOOD, AGE, 0 .. 50");
        numbersOfAll("", " 1 0 1;", 30, 0, 50);
        term(1, 6, "LIMIT, 1 .. 99");
        numbersOfAll("0 ", " 0 1;", 40, 1, 99);
        term(1, 6, "EAR, 0 .. 63");
        numbersOfAll("0 1 ", " 1;", 50, 0, 63);
        term(1, 6, "VOICES, 1 .. 9");
        numbersOfAll("0 1 0 ", ";", 60, 1, 9);
    }

    private static void numbersOfAll(String ahead, String behind, int what, int least, int most) {
        for (String kind : new String[] {"bench", "stool", "chair", "table"}) {
            for (String wood : new String[] {"oak", "walnut", "pine"}) {
                numbers(kind + " " + wood + " " + ahead, behind, what, least, most);
            }
        }
    }

    /** Of the numbers 0 .. 99 those within may stand in the text, and are what chamber() answers. */
    private static void numbers(String ahead, String behind, int what, int least, int most) {
        for (int number = 0; number <= 99; number++) {
            if (number >= least && number <= most) {
                room(ahead + number + behind);
                due(votes.chamber(0, what), number);
            } else {
                faulty(0, ahead + number + behind, 2, ahead.length());
            }
        }
    }

    private static void people() {
        term(1, 6, "PEOPLE, at most 6, from 0 on");
        for (int people = 0; people <= 6; people++) {
            room("stands 9;".repeat(people));
            due(votes.chamber(0, 1), people);
            for (int w = 0; w <= 9; w++) {
                due(votes.chamber(0, 70 + w), w < people ? 9 : NONE);
            }
        }
        faulty(0, "stands 9;".repeat(7), 3, 54);
        faulty(0, PIECE + "sits 9 0;".repeat(7), 3, PIECE.length() + 54);
        term(1, 6, "a WEIGHT, 1 .. 30");
        numbers("stands ", ";", 70, 1, 30);
        numbers("bench oak 0 1 0 1;sits ", " 0;", 70, 1, 30);
        term(1, 6, "a SEAT, a PIECE, or none: he stands");
        room(PIECE.repeat(8) + "sits 1 0;sits 1 7;stands 1;");
        due(votes.chamber(0, 80), 0);
        due(votes.chamber(0, 81), 7);
        due(votes.chamber(0, 82), 8);
    }

    private static void dampAndWax() {
        term(1, 6, "DAMP, 0 .. 9 (3 at first)");
        room("");
        due(votes.chamber(0, 2), 3);
        room(PIECE + "stands 1;");
        due(votes.chamber(0, 2), 3);
        numbers("damp ", ";", 2, 0, 9);
        term(1, 10, "WAX of a PIECE is 0");
        room(PIECE.repeat(8), "");
        for (int p = 0; p < 8; p++) {
            due(votes.state(0, 0, 0, 20 + p), 0);
        }
        term(1, 7, "A MOTION is a number, 0 .. 63: MATTERS as bits, as an EAR is");
        room("bench oak 0 1 1 1;bench oak 0 1 32 1;bench oak 0 1 63 1;bench oak 0 1 0 1;");
        int[][] loud = {{0, 0, 0, 0, 0}, {1, 3, 0, 3, 0}, {2, 0, 0, 3, 0}, {32, 0, 3, 3, 0}, {62, 0, 3, 15, 0}, {63, 3, 3, 18, 0}};
        for (int[] row : loud) {
            for (int p = 0; p < 4; p++) {
                due(votes.answer(0, row[0], 10 + p), row[1 + p]);
            }
        }
        for (int motion : NO_MOTIONS) {
            due(votes.answer(0, motion, 10), NONE);
        }
    }

    private static void kindsAndWoods() {
        term(1, 6, "KINDS: 0 BENCH, 1 STOOL, 2 CHAIR, 3 TABLE");
        for (int kind = 0; kind < 4; kind++) {
            room(KINDS[kind] + " oak 0 1 0 1;");
            due(votes.chamber(0, 10), kind);
        }
        term(1, 6, "WOODS: 0 OAK, 1 WALNUT, 2 PINE");
        for (int wood = 0; wood < 3; wood++) {
            room("table " + WOODS[wood] + " 0 1 0 1;");
            due(votes.chamber(0, 20), wood);
        }
    }

    private static void sessionsAndLogs() {
        term(1, 8, "A SESSION has DEEDS, at most 40, from 0 on");
        votes = new FurnitureVotes();
        for (int deeds : new int[] {0, 1, 39, 40}) {
            tell(1, "wet;".repeat(deeds));
            due(votes.deed(0, NONE, 0), deeds);
            due(votes.deed(0, deeds - 1, 0), deeds == 0 ? 0 : 5);
            due(votes.deed(0, deeds, 0), -2);
        }
        faulty(1, "wet;".repeat(41), 3, 160);
        term(1, 19, "A LOG has FACTS, at most 8, from 0 on");
        for (int facts : new int[] {0, 1, 7, 8}) {
            tell(2, "sounds 9 0 0;".repeat(facts));
            due(votes.fact(0, NONE, 0), facts);
            due(votes.fact(0, facts - 1, 0), facts == 0 ? 0 : 1);
            due(votes.fact(0, facts, 0), -2);
        }
        faulty(2, "sounds 9 0 0;".repeat(9), 3, 104);
        term(1, 20, "of one PIECE, new and without WAX");
        log("sounds 1 0 0;");
        due(votes.fits(0, 0), 3);
        due(votes.fits(0, 2), 1);
        log("sounds 0 0 0;");
        due(votes.fits(0, 0), 0);
        log("still 0 0 0;");
        due(votes.fits(0, 0), 297);
        term(1, 19, "with a LOAD, 0 .. 60");
        factNumbers("", " 0 0;", 1, 60);
        term(1, 19, "DAMP, 0 .. 9, so many MATTERS it has an EAR for, 0 .. 6");
        factNumbers("0 ", " 0;", 2, 9);
        factNumbers("0 0 ", ";", 3, 6);
        term(1, 19, "it SOUNDS, or is STILL");
        log("sounds 0 0 0;still 0 0 0;");
        due(votes.fact(0, 0, 0), 1);
        due(votes.fact(0, 1, 0), 0);
    }

    private static void factNumbers(String ahead, String behind, int what, int most) {
        for (String head : new String[] {"sounds ", "still "}) {
            for (int number = 0; number <= 99; number++) {
                if (number <= most) {
                    log(head + ahead + number + behind);
                    due(votes.fact(0, 0, what), number);
                } else {
                    faulty(2, head + ahead + number + behind, 2, head.length() + ahead.length());
                }
            }
        }
    }

    private static void tapeAndTokens() {
        term(1, 2, "THE TAPE has at most 600 bytes");
        faultless(0, "damp 7;" + "\n".repeat(593));
        faultless(0, " ".repeat(593) + "damp 7;");
        faultless(0, "damp9;".repeat(100));
        faulty(0, " ".repeat(599) + "x", 1, 599);
        fillTape(600);
        due(votes.feed(0, 0, 0, 0, 0), NONE);
        term(1, 4, "TOKENS, as long as they go");
        faultless(0, "bench oak0 1 0 1;damp3;sits1 0;");
        faulty(0, "benchoak 0 1 0 1;", 1, 0);
        faulty(0, "be nch oak 0 1 0 1;", 1, 0);
        faulty(0, "bench oak 0 101;", 1, 12);
        faulty(0, "bench oak 0 1 0 1 1;", 1, 18);
        faulty(0, "damp 1 2;", 1, 7);
        faulty(0, "damp 12;", 2, 5);
        faulty(1, "sits 0 0;", 1, 0);
        faulty(0, "sit 1 0;", 1, 0);
        term(1, 4, "blanks (10, 32) between");
        faultless(0, "");
        faultless(0, " ");
        faultless(0, "\n\n \n");
        faultless(0, "\n damp\n\n3  \n;\n damp 4 ; ");
        for (int sign : new int[] {0, 9, 11, 12, 13, 31, 33, 127, 128, 133, 138, 160, 255}) {
            faulty(0, "damp" + (char) sign + "3;", 1, 4);
            faulty(0, (char) sign + "damp 3;", 1, 0);
            faulty(0, "damp 3;" + (char) sign, 1, 7);
        }
    }

    private static void words() {
        term(1, 4, "words, rows of letters a .. z");
        faulty(0, "DAMP 3;", 1, 0);
        faulty(0, "dAMP 3;", 1, 0);
        faulty(0, "damP 3;", 1, 0);
        faulty(0, "damp 3;Damp 3;", 1, 7);
        for (char sign : new char[] {'@', 'A', 'Z', '[', '`', '{', '_', '-'}) {
            faulty(0, "damp" + sign + "3;", 1, 4);
        }
        faulty(0, "z;", 1, 0);
        faulty(0, "dampa 3;", 1, 0);
        faulty(0, "dampz 3;", 1, 0);
        faulty(0, "adamp 3;", 1, 0);
        faulty(0, "zdamp 3;", 1, 0);
        faulty(0, "dam 3;", 1, 0);
        term(1, 4, "NUMBERS, 1 or 2 digits");
        for (String number : new String[] {"7", "07"}) {
            room("damp " + number + ";");
            due(votes.chamber(0, 2), 7);
        }
        room("stands 30;damp 00;");
        due(votes.chamber(0, 70), 30);
        due(votes.chamber(0, 2), 0);
        faulty(0, "damp 007;", 1, 5);
        faulty(0, "damp 000;", 1, 5);
        faulty(0, "damp -1;", 1, 5);
        faulty(0, "damp +1;", 1, 5);
        faulty(0, "damp 1.;", 1, 6);
        faulty(0, "damp /;", 1, 5);
        faulty(0, "damp 3:", 1, 6);
        term(1, 4, "; one byte");
        faulty(0, ";", 1, 0);
        faulty(0, "damp 3;;", 1, 7);
        faulty(0, "damp 3 ; ;", 1, 9);
        faulty(1, "wet;;", 1, 4);
        faulty(2, "still 0 0 0;;", 1, 12);
    }

    private static void chamberText() {
        term(1, 6, "A CHAMBER's text: {(('bench' | 'stool' | 'chair' | 'table') ('oak' | 'walnut' | 'pine') NUMBER NUMBER NUMBER NUMBER |"
            + " 'sits' NUMBER NUMBER | ('stands' | 'damp') NUMBER) ';'}");
        faultless(0, "");
        for (String kind : KINDS) {
            for (String wood : WOODS) {
                faultless(0, kind + " " + wood + " 0 1 0 1;");
                cutAndLonger(0, kind, wood, "0", "1", "0", "1", ";");
            }
            faulty(0, kind + " elm 0 1 0 1;", 1, 6);
            faulty(0, kind + " 0 1 0 1;", 1, 6);
            faulty(0, kind + " " + kind + " 0 1 0 1;", 1, 6);
        }
        for (String wood : WOODS) {
            faulty(0, wood + " bench 0 1 0 1;", 1, 0);
        }
        cutAndLonger(0, "sits", "1", "0", ";");
        cutAndLonger(0, "stands", "1", ";");
        cutAndLonger(0, "damp", "1", ";");
        for (String head : new String[] {"motion", "stand", "wax", "set", "sit", "wet", "dry", "night", "sounds", "still"}) {
            faulty(0, head + " 1;", 1, 0);
        }
        term(1, 6, "(bench and so on: AGE, LIMIT, EAR, VOICES; sits: WEIGHT, a PIECE, 0 .. 7; stands: WEIGHT)");
        room(PIECE.repeat(7) + "table pine 50 49 48 7;sits 30 7;stands 29;");
        int[] told = {3, 2, 50, 49, 48, 7};
        for (int i = 0; i < 6; i++) {
            due(votes.chamber(0, 17 + 10 * i), told[i]);
        }
        due(votes.chamber(0, 70), 30);
        due(votes.chamber(0, 80), 7);
        due(votes.chamber(0, 71), 29);
        for (int seat = 0; seat <= 99; seat++) {
            faulty(0, PIECE.repeat(8) + "sits 1 " + seat + ";", seat <= 7 ? 0 : 2, seat <= 7 ? NONE : 151);
        }
    }

    /** A line whose tokens are these, cut behind each of them, or going on with another one, is no text. */
    private static void cutAndLonger(int sort, String... tokens) {
        StringBuilder line = new StringBuilder();
        for (int i = 0; i < tokens.length - 1; i++) {
            line.append(i == 0 ? "" : " ").append(tokens[i]);
            faulty(sort, line.toString(), 1, line.length());
            faulty(sort, line + " \n", 1, line.length() + 2);
            faulty(sort, line + "!", 1, line.length());
            faulty(sort, line + " x;", 1, line.length() + 1);
            if (!tokens[i + 1].equals(";")) {
                faulty(sort, line + ";", 1, line.length());
            } else {
                faulty(sort, line + " 0;", 1, line.length() + 1);
            }
        }
    }

    private static void sessionText() {
        term(1, 8, "A SESSION's text: {(('motion' | 'stand' | 'wax' | 'set') NUMBER | 'sit' NUMBER NUMBER | 'wet' | 'dry' | 'night') ';'}");
        faultless(1, "");
        for (String head : new String[] {"motion", "stand", "wax", "set"}) {
            faultless(1, head + " 5;");
            cutAndLonger(1, head, "5", ";");
        }
        faultless(1, "sit 5 7;");
        cutAndLonger(1, "sit", "5", "7", ";");
        for (String head : EMPTY_DEEDS) {
            faultless(1, head + ";");
            faulty(1, head, 1, head.length());
            faulty(1, head + " 1;", 1, head.length() + 1);
        }
        for (String head : new String[] {"bench", "sits", "stands", "damp", "sounds", "still", "motions", "nigh"}) {
            faulty(1, head + " 1;", 1, 0);
        }
        term(1, 8, "(stand: a PERSON, 0 .. 5; wax, set: a PIECE, 0 .. 7; sit: a PERSON, a PIECE)");
        deedNumbers("motion ", ";", 1, 63);
        deedNumbers("stand ", ";", 1, 5);
        deedNumbers("wax ", ";", 1, 7);
        deedNumbers("set ", ";", 1, 7);
        deedNumbers("sit ", " 0;", 1, 5);
        deedNumbers("sit 0 ", ";", 2, 7);
    }

    private static void deedNumbers(String ahead, String behind, int what, int most) {
        for (int number = 0; number <= 99; number++) {
            if (number <= most) {
                votes = new FurnitureVotes();
                tell(1, ahead + number + behind);
                due(votes.deed(0, 0, what), number);
            } else {
                faulty(1, ahead + number + behind, 2, ahead.length());
            }
        }
    }

    private static void logText() {
        term(1, 19, "A LOG's text: {('sounds' | 'still') NUMBER NUMBER NUMBER ';'}");
        faultless(2, "");
        for (String head : new String[] {"sounds", "still"}) {
            faultless(2, head + " 60 9 6;");
            cutAndLonger(2, head, "60", "9", "6", ";");
        }
        for (String head : new String[] {"bench", "stands", "damp", "motion", "wet", "sound", "stills"}) {
            faulty(2, head + " 1 1 1;", 1, 0);
        }
    }

    private static void laterOnes() {
        term(1, 6, "Later ones strike, but PIECES, PEOPLE, DEEDS, FACTS, which are further ones");
        room("damp 9;stands 2;" + PIECE + "damp 0;stands 2;" + PIECE + "damp 5;", "wet;wet;");
        tell(2, "still 0 0 0;still 0 0 0;");
        due(votes.chamber(0, 2), 5);
        due(votes.chamber(0, 0), 2);
        due(votes.chamber(0, 1), 2);
        due(votes.deed(0, NONE, 0), 2);
        due(votes.fact(0, NONE, 0), 2);
        faulty(0, "damp 10;damp 9;", 2, 5);
    }

    private static void firstFault() {
        term(1, 5, "FAULTS of all, with places (a token's first byte; the end's)");
        faulty(0, "  elm", 1, 2);
        faulty(0, "\n\nstands\n31;", 2, 9);
        faulty(0, "stands 1;".repeat(6) + "\n stands 1;", 3, 56);
        faulty(0, "sits 1 0; \n", 4, 11);
        faulty(0, "damp 1", 1, 6);
        faulty(0, "damp 1 \n ", 1, 9);
        faulty(0, " ".repeat(594) + "damp 1", 1, 600);
        faulty(0, "sits 1 0;" + " ".repeat(591), 4, 600);
        term(1, 5, "1 the first byte or token with which no text goes on (a longer row of digits is no token)");
        faulty(0, "?", 1, 0);
        faulty(0, "damp ?;", 1, 5);
        faulty(0, "damp damp;", 1, 5);
        faulty(0, "damp 4 damp ?;", 1, 7);
        faulty(0, "damp 123;", 1, 5);
        faulty(0, "damp 1 234;", 1, 7);
        faulty(0, "123;", 1, 0);
        faulty(0, "damp 123?", 1, 5);
        faulty(0, "damp 1234", 1, 5);
        faulty(0, "damp " + "9".repeat(595), 1, 5);
        faulty(0, "x" + "y".repeat(599), 1, 0);
        // It comes ahead of all others, however late its place is.
        faulty(0, "damp 99;" + "stands 1;".repeat(7) + "sits 1 0;?", 1, 80);
        faulty(0, "damp 99;" + "stands 1;".repeat(7) + "sits 1 0;damp", 1, 84);
        faulty(1, "wet;".repeat(41) + "wet", 1, 167);
        faulty(2, "still 61 10 7;".repeat(9) + "!", 1, 126);
    }

    private static void otherFaults() {
        term(1, 5, "If there is none, the first by place, of one place the least");
        faulty(0, "stands 1;".repeat(7) + "damp 99;", 3, 54);
        faulty(0, "damp 99;" + "stands 1;".repeat(7), 2, 5);
        faulty(0, "stands 31;stands 32;", 2, 7);
        faulty(0, PIECE.repeat(9) + "stands 1;".repeat(7), 3, 144);
        faulty(0, "stands 1;".repeat(7) + PIECE.repeat(9), 3, 54);
        term(1, 5, "2 a NUMBER that can't be (as above; a line with such a NUMBER tells its PIECE, PERSON, DEED, FACT all the same)");
        faulty(0, "bench oak 51 0 64 0;", 2, 10);
        faulty(0, "bench oak 50 0 64 0;", 2, 13);
        faulty(0, "bench oak 50 1 64 0;", 2, 15);
        faulty(0, "bench oak 50 1 63 0;", 2, 18);
        faulty(0, "bench oak 50 1 63 10;", 2, 18);
        faulty(0, "sits 0 8;", 2, 5);
        faulty(0, "sits 30 8;", 2, 8);
        faulty(1, "sit 6 8;", 2, 4);
        faulty(1, "sit 5 8;", 2, 6);
        faulty(2, "still 61 10 7;", 2, 6);
        faulty(2, "still 60 10 7;", 2, 9);
        faulty(2, "still 60 9 7;", 2, 11);
        // The ninth, seventh, forty-first are such also where the wrong number stands in their own line.
        faulty(0, PIECE.repeat(8) + "bench oak 51 1 0 1;", 3, 144);
        faulty(0, "stands 1;".repeat(6) + "stands 0;", 3, 54);
        faulty(1, "wet;".repeat(40) + "motion 64;", 3, 160);
        faulty(2, "still 0 0 0;".repeat(8) + "still 61 0 0;", 3, 96);
        term(1, 5, "3 a 9th PIECE, a 7th PERSON, a 41st DEED, a 9th FACT, at its first token");
        faultless(0, PIECE.repeat(8) + "stands 1;".repeat(6) + "damp 1;".repeat(10));
        faulty(0, PIECE.repeat(8) + " table pine 0 1 0 1;", 3, 145);
        faulty(0, PIECE + "stands 1;sits 1 0;".repeat(3) + "\nsits 1 0;", 3, 73);
        faultless(1, "wet;dry;".repeat(20));
        faulty(1, "wet;dry;".repeat(20) + "  night;", 3, 162);
        faultless(2, "still 0 0 0;".repeat(8));
        faulty(2, "still 0 0 0;".repeat(8) + "\nsounds 0 0 0;", 3, 97);
    }

    private static void lostSeats() {
        term(1, 5, "If there is none of these, at the end's place, of a CHAMBER: 4 a PIECE that was told of (by sits) and is not there");
        for (int pieces = 0; pieces <= 8; pieces++) {
            for (int seat = 0; seat <= 7; seat++) {
                String text = "sits 1 " + seat + ";" + PIECE.repeat(pieces);
                faulty(0, text, seat < pieces ? 0 : 4, seat < pieces ? NONE : text.length());
            }
        }
        faulty(0, "sits 1 0;stands 99;", 2, 16);
        faulty(0, "sits 1 7;" + "stands 1;".repeat(6), 3, 54);
        faulty(0, "sits 1 0;x", 1, 9);
        faulty(0, PIECE + "sits 1 0;sits 1 1;sits 1 0;", 4, 45);
        faultless(1, "sit 5 7;wax 7;set 7;stand 5;");
    }

    private static void rooms() {
        term(1, 42, "CHAMBERS, at most 2 (sort 0), SESSIONS, at most 2 (1), LOGS, at most 2 (2), from 0 on");
        votes = new FurnitureVotes();
        for (int i = 0; i < 2; i++) {
            due(Play.tell(votes, 0, NONE, "damp " + i + ";"), i);
            due(Play.tell(votes, 1, NONE, "motion " + i + ";"), i);
            due(Play.tell(votes, 2, NONE, "still " + i + " 0 0;"), i);
        }
        for (int i = 0; i < 2; i++) {
            due(votes.text(i, NONE), -2);
            due(votes.chamber(i, 2), i);
            due(votes.deed(i, 0, 1), i);
            due(votes.fact(i, 0, 1), i);
        }
        due(votes.text(2, NONE), -2);
        for (int sort = 0; sort < 3; sort++) {
            due(votes.count(sort), 2);
        }
    }

    private static void chamber() {
        promise(6, "Of a CHAMBER, what 0: PIECES, 1: PEOPLE, 2: DAMP");
        room("");
        due(votes.chamber(0, 0), 0);
        due(votes.chamber(0, 1), 0);
        due(votes.chamber(0, 2), 3);
        room(PIECE.repeat(8) + "stands 1;".repeat(6) + "damp 9;");
        due(votes.chamber(0, 0), 8);
        due(votes.chamber(0, 1), 6);
        due(votes.chamber(0, 2), 9);
        promise(6, "10 + p .. 60 + p by tens: KIND, WOOD, AGE, LIMIT, EAR, VOICES of a PIECE");
        room("bench oak 0 1 0 1;" + PIECE.repeat(6) + "table pine 50 99 63 9;stands 1;");
        int[] first = {0, 0, 0, 1, 0, 1};
        int[] last = {3, 2, 50, 99, 63, 9};
        for (int i = 0; i < 6; i++) {
            due(votes.chamber(0, 10 + 10 * i), first[i]);
            due(votes.chamber(0, 17 + 10 * i), last[i]);
        }
        promise(6, "70 + w, 80 + w: WEIGHT, SEAT (8: stands) of a PERSON");
        room(PIECE.repeat(8) + "sits 1 0;stands 2;stands 3;stands 4;stands 5;sits 30 7;");
        due(votes.chamber(0, 70), 1);
        due(votes.chamber(0, 80), 0);
        due(votes.chamber(0, 71), 2);
        due(votes.chamber(0, 81), 8);
        due(votes.chamber(0, 75), 30);
        due(votes.chamber(0, 85), 7);
        promise(6, "NONE: there is none such (of any), or for another what");
        for (int i = 0; i < 6; i++) {
            due(votes.chamber(0, 18 + 10 * i), NONE);
            due(votes.chamber(0, 19 + 10 * i), NONE);
        }
        for (int what : new int[] {LOW, -10, -1, 3, 9, 76, 79, 86, 89, 90, 95, 100, 110, HIGH}) {
            due(votes.chamber(0, what), NONE);
        }
        for (int c : new int[] {LOW, -1, 1, 2, HIGH}) {
            noChamber(c);
        }
        room("");
        for (int what = 10; what < 90; what++) {
            due(votes.chamber(0, what), NONE);
        }
    }

    private static void deed() {
        promise(8, "How many DEEDS (k NONE, what 0)");
        votes = new FurnitureVotes();
        tell(1, "");
        due(votes.deed(0, NONE, 0), 0);
        tell(1, "night;".repeat(40));
        due(votes.deed(0, NONE, 0), 40);
        promise(8, "of DEED k, what 0: 0 motion, 1 stand, 2 wax, 3 set, 4 sit, 5 wet, 6 dry, 7 night");
        tell(1, "motion 63;stand 5;wax 7;set 7;sit 5 7;wet;dry;night;");
        for (int k = 0; k < 8; k++) {
            due(votes.deed(0, k, 0), k);
        }
        promise(8, "1, 2: its numbers (NONE without)");
        int[][] numbers = {{63, -1}, {5, -1}, {7, -1}, {7, -1}, {5, 7}, {-1, -1}, {-1, -1}, {-1, -1}};
        for (int k = 0; k < 8; k++) {
            due(votes.deed(0, k, 1), numbers[k][0]);
            due(votes.deed(0, k, 2), numbers[k][1]);
        }
        promise(8, "-2: there is none such (of either), or for another what");
        for (int k : new int[] {LOW, -2, 8, 40, HIGH}) {
            for (int what = 0; what < 3; what++) {
                due(votes.deed(0, k, what), -2);
            }
        }
        for (int what : new int[] {LOW, -2, -1, 3, HIGH}) {
            due(votes.deed(0, NONE, what), -2);
            due(votes.deed(0, 0, what), -2);
            due(votes.deed(0, 7, what), -2);
        }
        due(votes.deed(0, NONE, 1), -2);
        due(votes.deed(0, NONE, 2), -2);
        for (int s : new int[] {LOW, -1, 1, 2, HIGH}) {
            noSession(s);
        }
    }

    private static void fact() {
        promise(19, "How many FACTS (k NONE, what 0)");
        log("");
        due(votes.fact(0, NONE, 0), 0);
        tell(2, "still 0 0 0;".repeat(8));
        due(votes.fact(0, NONE, 0), 8);
        promise(19, "of FACT k, what 0: 1 it SOUNDS, 0 it is STILL, 1, 2, 3: LOAD, DAMP, MATTERS");
        tell(2, "sounds 60 9 6;still 0 1 2;");
        int[][] facts = {{1, 60, 9, 6}, {0, 0, 1, 2}};
        for (int k = 0; k < 2; k++) {
            for (int what = 0; what < 4; what++) {
                due(votes.fact(0, k, what), facts[k][what]);
            }
        }
        promise(19, "-2: there is none such (of either), or for another what");
        for (int k : new int[] {LOW, -2, 2, 8, HIGH}) {
            for (int what = 0; what < 4; what++) {
                due(votes.fact(0, k, what), -2);
            }
        }
        for (int what : new int[] {LOW, -2, -1, 4, HIGH}) {
            due(votes.fact(0, NONE, what), -2);
            due(votes.fact(0, 0, what), -2);
            due(votes.fact(0, 1, what), -2);
        }
        for (int what = 1; what < 4; what++) {
            due(votes.fact(0, NONE, what), -2);
        }
        for (int l : new int[] {LOW, -1, 1, 2, HIGH}) {
            noLog(l);
        }
    }

    private static void count() {
        promise(42, "How many there are of a sort");
        votes = new FurnitureVotes();
        for (int sort = 0; sort < 3; sort++) {
            for (int i = 0; i < 2; i++) {
                due(votes.count(sort), i);
                due(votes.text(sort, NONE), i);
                due(votes.text(sort, i), i);
            }
            due(votes.count(sort), 2);
            due(votes.text(sort, NONE), -2);
            due(votes.count(sort), 2);
        }
        promise(42, "-2 for another one");
        for (int sort : new int[] {LOW, -2, -1, 3, 4, HIGH}) {
            due(votes.count(sort), -2);
        }
    }

    private static void image() {
        promise(43, "Image k (0 .. 2) is all that is told (the tape, the FAULT, too), as it is now: true");
        for (int k = 0; k < 3; k++) {
            full();
            due(votes.image(k), true);
            for (int sort = 0; sort < 3; sort++) {
                due(votes.text(sort, 0), 0);
                due(votes.text(sort, 1), 1);
            }
            due(votes.again(k), true);
            isFull();
            // An image that is made once more is as it is now, not as it was.
            due(votes.text(0, 0), 0);
            due(votes.image(k), true);
            due(votes.text(0, 1), 1);
            due(votes.again(k), true);
            due(votes.chamber(0, 0), 0);
            due(votes.chamber(1, 2), 8);
            due(votes.end(1), NONE);
        }
        promise(43, "false for another k");
        for (int k : new int[] {LOW, -2, -1, 3, 4, HIGH}) {
            due(votes.image(k), false);
            due(votes.again(k), false);
        }
    }

    /** Two of each sort, a fault, and something on the tape. */
    private static void full() {
        room("damp 7;" + PIECE.repeat(8) + "sits 30 7;".repeat(6), "motion 63;sit 5 7;");
        tell(2, "sounds 60 9 6;");
        due(Play.tell(votes, 0, NONE, "damp 8;"), 1);
        due(Play.tell(votes, 1, NONE, "wax 7;"), 1);
        due(Play.tell(votes, 2, NONE, "still 59 8 5;"), 1);
        due(Play.tell(votes, 0, 0, "damp 10;"), NONE);
        Play.bring(votes, Play.bytes("damp 6;"));
    }

    /** Takes what is on the tape. */
    private static void isFull() {
        int[] chamber = {votes.chamber(0, 0), votes.chamber(0, 1), votes.chamber(0, 2), votes.chamber(0, 47),
            votes.chamber(0, 75), votes.chamber(0, 85), votes.chamber(1, 2), votes.chamber(1, 0)};
        int[] chamberDue = {8, 6, 7, 1, 30, 7, 8, 0};
        for (int i = 0; i < chamber.length; i++) {
            due(chamber[i], chamberDue[i]);
        }
        due(votes.deed(0, NONE, 0), 2);
        due(votes.deed(0, 1, 2), 7);
        due(votes.deed(1, 0, 0), 2);
        due(votes.fact(0, 0, 1), 60);
        due(votes.fact(1, 0, 1), 59);
        for (int sort = 0; sort < 3; sort++) {
            due(votes.count(sort), 2);
        }
        due(votes.fault(0), 2);
        due(votes.fault(1), 5);
        due(votes.end(8), NONE);
        due(votes.end(7), 7);
        due(votes.text(0, 0), 0);
        due(votes.chamber(0, 2), 6);
    }

    private static void again() {
        promise(44, "All that is as image k has it (other images stay): true");
        votes = new FurnitureVotes();
        due(votes.image(0), true);
        tell(0, "damp 1;");
        due(votes.image(1), true);
        tell(0, "damp 2;");
        due(votes.image(2), true);
        for (int round = 0; round < 2; round++) {
            for (int k = 2; k >= 0; k--) {
                due(votes.again(k), true);
                due(votes.count(0), k == 0 ? 0 : 1);
                due(votes.chamber(0, 2), k == 0 ? NONE : k);
                due(votes.fault(0), 0);
                tell(0, "damp 9;");
                due(votes.chamber(0, 2), 9);
            }
        }
        due(votes.again(1), true);
        due(votes.image(0), true);
        due(votes.again(2), true);
        due(votes.again(0), true);
        due(votes.chamber(0, 2), 1);
        due(votes.again(2), true);
        due(votes.chamber(0, 2), 2);
        promise(44, "false if there is none such");
        votes = new FurnitureVotes();
        tell(0, "damp 6;");
        due(votes.image(1), true);
        tell(0, "damp 5;");
        for (int k : new int[] {LOW, -1, 0, 2, 3, HIGH}) {
            due(votes.again(k), false);
            due(votes.chamber(0, 2), 5);
        }
        due(votes.again(1), true);
        due(votes.chamber(0, 2), 6);
        due(votes.again(0), false);
    }
}
