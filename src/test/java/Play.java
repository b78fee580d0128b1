import java.nio.charset.StandardCharsets;

/** Plays on an object of the class: feeds texts, and prints and counts what is not as due. */
final class Play {
    private static int wrong = 0;
    private static int asked = 0;

    private Play() {
    }

    static void due(String call, long got, long want) {
        asked++;
        if (got != want) {
            wrong++;
            if (wrong <= 40) {
                System.out.println(call + " answered " + got + ", due is " + want);
            }
        }
    }

    static void due(String call, boolean got, boolean want) {
        due(call, got ? 1 : 0, want ? 1 : 0);
    }

    /** Brings the bytes of a text onto the tape, which has a multiple of twenty bytes or is cut behind them. */
    static void bring(FurnitureVotes votes, byte[] bytes) {
        for (int from = 0; from < bytes.length; from += 20) {
            int[] numbers = new int[5];
            for (int i = 0; i < 20 && from + i < bytes.length; i++) {
                numbers[i / 4] |= (bytes[from + i] & 255) << (24 - 8 * (i % 4));
            }
            votes.feed(numbers[0], numbers[1], numbers[2], numbers[3], numbers[4]);
        }
        votes.end(bytes.length);
    }

    static byte[] bytes(String text) {
        return text.getBytes(StandardCharsets.ISO_8859_1);
    }

    static int tell(FurnitureVotes votes, int sort, int at, String text) {
        bring(votes, bytes(text));
        return votes.text(sort, at);
    }

    static FurnitureVotes chamber(String text) {
        FurnitureVotes votes = new FurnitureVotes();
        due("text(0, -1) of '" + text + "'", tell(votes, 0, -1, text), 0);
        return votes;
    }

    /** A fault of a text of a sort, at a place. */
    static void faulty(int sort, String text, int fault, int place) {
        FurnitureVotes votes = new FurnitureVotes();
        due("text of '" + text + "'", tell(votes, sort, -1, text), fault == 0 ? 0 : -1);
        due("fault(0) of '" + text + "'", votes.fault(0), fault);
        due("fault(1) of '" + text + "'", votes.fault(1), place);
        due("count of '" + text + "'", votes.count(sort), fault == 0 ? 1 : 0);
    }

    static void finish(String test) {
        System.out.println(test + ": " + asked + " answers, " + wrong + " not as due");
        if (wrong != 0) {
            System.exit(1);
        }
    }
}
