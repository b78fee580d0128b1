import java.util.Random;

/** Faults and their places: told ones by hand, and many texts with small hurts against the text oracle. */
public final class FaultsTest {
    private static final String[] WORDS = {
        "bench", "stool", "chair", "table", "oak", "walnut", "pine", "sits", "stands", "damp", "motion", "stand", "wax",
        "set", "sit", "wet", "dry", "night", "sounds", "still", "benchx", "benc", "a", ";", ";", ";", " ", "\n", "0",
        "7", "8", "9", "10", "30", "31", "50", "51", "63", "64", "99", "00", "007", "100", "A", "\t", "-1", "\u00e9",
        "\u0000", ",",
    };

    private FaultsTest() {
    }

    public static void main(String[] args) {
        byHand();
        cutTapes();
        fullTapes();
        for (int seed = 1; seed <= 6000; seed++) {
            hurt(new Random(seed));
        }
        Play.finish("FaultsTest");
    }

    private static void byHand() {
        Play.faulty(0, "", 0, -1);
        Play.faulty(0, " \n ", 0, -1);
        Play.faulty(0, "bench\noak0 01\n0 1;sits30 0 ;stands 1;damp9;", 0, -1);
        Play.faulty(0, "bench oak 1 2 3", 1, 15);
        Play.faulty(0, "bench oak 1 2 3 4", 1, 17);
        Play.faulty(0, "bench oak 1 2 3 4  ", 1, 19);
        Play.faulty(0, "bench elm 1 2 3 4;", 1, 6);
        Play.faulty(0, "Bench oak 1 2 3 4;", 1, 0);
        Play.faulty(0, "benches oak 1 2 3 4;", 1, 0);
        Play.faulty(0, "benchz oak 1 2 3 4;", 1, 0);
        Play.faulty(0, "abench oak 1 2 3 4;", 1, 0);
        Play.faulty(0, "bench oak 1 002 3 4;", 1, 12);
        Play.faulty(0, "bench oak 1 2 3 4 5;", 1, 18);
        Play.faulty(0, "damp 99;damp 1,", 1, 14);
        Play.faulty(0, ";", 1, 0);
        Play.faulty(0, "damp 3;;", 1, 7);
        Play.faulty(0, "motion 3;", 1, 0);
        Play.faulty(1, "damp 3;", 1, 0);
        Play.faulty(2, "wet;", 1, 0);
        Play.faulty(0, "damp\t3;", 1, 4);
        Play.faulty(1, "wet 3;", 1, 4);
        Play.faulty(1, "motion;", 1, 6);
        Play.faulty(1, "sit 1;", 1, 5);
        Play.faulty(2, "sounds 1 2;", 1, 10);
        ranges();
        Play.faulty(0, "sits 5 0;bench oak 0 1 0 1;", 0, -1);
        Play.faulty(0, "sits 5 1;bench oak 0 1 0 1;", 4, 27);
        Play.faulty(0, "sits 5 1;bench oak 0 1 0 1; ", 4, 28);
        Play.faulty(0, "sits 5 1;bench oak 51 1 0 1;", 2, 19);
        Play.faulty(0, "sits 5 1;bench oak 51 1 0 1;x", 1, 28);
        Play.faulty(0, "stands 1;".repeat(6), 0, -1);
        Play.faulty(0, "stands 1;".repeat(7), 3, 54);
        Play.faulty(0, "stands 1;".repeat(6) + "sits 1 7;", 3, 54);
        Play.faulty(0, "stands 0;" + "stands 1;".repeat(6), 2, 7);
        Play.faulty(0, "stands 1;".repeat(6) + " stands 31;", 3, 55);
        Play.faulty(0, "damp 1;".repeat(20), 0, -1);
        Play.faulty(0, "table pine 0 1 0 1;".repeat(8), 0, -1);
        Play.faulty(0, "table pine 0 1 0 1;".repeat(9), 3, 152);
        Play.faulty(1, "night;".repeat(40), 0, -1);
        Play.faulty(1, "night;".repeat(41), 3, 240);
        Play.faulty(2, "still 0 0 0;".repeat(8), 0, -1);
        Play.faulty(2, "still 0 0 0;".repeat(9), 3, 96);
    }

    /** What was on the tape behind its end is no part of the text. */
    private static void cutTapes() {
        cut("damp 12;", 6, 1, 6);
        cut("damp 123;", 7, 1, 7);
        cut("damp 1;  ;", 7, 0, -1);
        cut("damp 1; \n;", 8, 0, -1);
        cut("damp 1;stands 1;", 12, 1, 7);
        cut("damp 1;stands 1;", 13, 1, 13);
        cut("damp  1;", 5, 1, 5);
    }

    private static void cut(String text, int length, int fault, int place) {
        FurnitureVotes votes = new FurnitureVotes();
        Play.bring(votes, Play.bytes(text));
        Play.due("end of '" + text + "'", votes.end(length), length);
        Play.due("text of '" + text + "' cut", votes.text(0, -1), fault == 0 ? 0 : -1);
        Play.due("fault(0) of '" + text + "' cut", votes.fault(0), fault);
        Play.due("fault(1) of '" + text + "' cut", votes.fault(1), place);
    }

    private static void fullTapes() {
        Play.faulty(0, "damp 1;" + " ".repeat(593), 0, -1);
        Play.faulty(0, " ".repeat(594) + "damp 1", 1, 600);
        Play.faulty(0, " ".repeat(593) + "damp 12", 1, 600);
        Play.faulty(0, " ".repeat(592) + "damp 123", 1, 597);
        Play.faulty(0, " ".repeat(596) + "damp", 1, 600);
        Play.faulty(0, "x".repeat(600), 1, 0);
        Play.faulty(0, "damp 1;" + "7".repeat(593), 1, 7);
        Play.faulty(0, ";".repeat(600), 1, 0);
        Play.faulty(0, "damp1;".repeat(100), 0, -1);
    }

    private static void ranges() {
        for (String kind : Oracle.KINDS) {
            range(0, kind + " oak ", " 1 0 1;", 0, 50);
            range(0, kind + " walnut 0 ", " 0 1;", 1, 99);
            range(0, kind + " pine 0 1 ", " 1;", 0, 63);
            range(0, kind + " oak 0 1 0 ", ";", 1, 9);
        }
        range(0, "stands ", ";", 1, 30);
        range(0, "damp ", ";", 0, 9);
        range(0, "bench oak 0 1 0 1;sits ", " 0;", 1, 30);
        range(0, "bench oak 0 1 0 1;".repeat(8) + "sits 1 ", ";", 0, 7);
        range(1, "motion ", ";", 0, 63);
        range(1, "stand ", ";", 0, 5);
        range(1, "wax ", ";", 0, 7);
        range(1, "set ", ";", 0, 7);
        range(1, "sit ", " 0;", 0, 5);
        range(1, "sit 0 ", ";", 0, 7);
        for (String head : new String[] {"sounds", "still"}) {
            range(2, head + " ", " 0 0;", 0, 60);
            range(2, head + " 0 ", " 0;", 0, 9);
            range(2, head + " 0 0 ", ";", 0, 6);
        }
    }

    private static void range(int sort, String ahead, String behind, int least, int most) {
        for (int number = 0; number <= 99; number++) {
            boolean may = number >= least && number <= most;
            Play.faulty(sort, ahead + number + behind, may ? 0 : 2, may ? -1 : ahead.length());
        }
    }

    private static void hurt(Random random) {
        int sort = random.nextInt(3);
        StringBuilder text = new StringBuilder();
        if (sort == 0) {
            text.append(Oracle.randomRoom(random, 9, 7).text());
        } else if (sort == 1) {
            text.append(Oracle.deedsText(Oracle.randomDeeds(random, 42)));
        } else {
            text.append(Oracle.factsText(Oracle.randomFacts(random)));
            text.append(random.nextInt(3) == 0 ? Oracle.factsText(Oracle.randomFacts(random)) : "");
        }
        int hurts = random.nextInt(3);
        for (int i = 0; i < hurts; i++) {
            int at = random.nextInt(text.length() + 1);
            int to = Math.min(text.length(), at + random.nextInt(3));
            text.replace(at, to, WORDS[random.nextInt(WORDS.length)]);
        }
        text.setLength(Math.min(text.length(), 600));
        int[] fault = TextOracle.fault(sort, text.toString());
        Play.faulty(sort, text.toString(), fault[0], fault[1]);
    }
}
