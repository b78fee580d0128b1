import java.util.List;
import java.util.Random;

/** Holds every answer about chambers, sessions and logs against the oracle, on rooms drawn by fixed seeds. */
public final class OracleTest {
    private static final String FULL = "stool pine 50 1 63 9;".repeat(3) + "chair walnut 9 9 9 9;bench pine 0 6 7 8;".repeat(2)
        + "table oak 0 1 0 9;" + "sits 30 7;".repeat(3) + "sits 9 3;sits 9 5;sits 9 0;";

    private static Random random;
    private static Oracle.Room room;
    private static FurnitureVotes votes;
    private static String where;

    private OracleTest() {
    }

    public static void main(String[] args) {
        for (int seed = 1; seed <= 250; seed++) {
            random = new Random(seed);
            room = Oracle.randomRoom(random, seed % 4 == 0 ? 8 : 5, seed % 25 == 0 ? 6 : 3);
            where = "room " + seed + " '" + room.text() + "' ";
            ofTheWhole();
            for (int i = 0; i < 3; i++) {
                ofAMotion(random.nextInt(64));
            }
            ofASession();
            ofALog(seed);
        }
        Play.finish("OracleTest");
    }

    /** An object that answered of a full room before, so that what is left in its rows would show. */
    private static void fresh() {
        votes = Play.chamber(FULL);
        Play.tell(votes, 1, -1, "motion 63;wax 7;night;");
        for (int motion = 0; motion < 64; motion += 21) {
            votes.moves(0, motion, -1);
            votes.greedy(0, motion, -1);
            votes.waxed(0, motion, false, -1);
            votes.lobby(0, motion, 2, true);
            votes.weather(0, motion, 9, 7, false);
            votes.oaken(0, motion);
            votes.hinge(0, motion, false);
        }
        votes.power(0, 0);
        votes.after(0, 0, 1);
        votes.drawn(0, 1, 60, 3);
        Play.due(where + "text(0, 0)", Play.tell(votes, 0, 0, room.text()), 0);
        Play.due(where + "text(1, 0)", Play.tell(votes, 1, 0, ""), 0);
    }

    private static void due(String call, long got, long want) {
        Play.due(where + call, got, want);
    }

    private static void ofTheWhole() {
        fresh();
        List<Integer> carried = Oracle.carried(room);
        List<Integer> clear = Oracle.clear(room);
        for (int k = -2; k <= 64; k += k < 3 ? 1 : 7) {
            due("carried " + k, votes.carried(0, k), k == -2 ? -1 : Oracle.kth(carried, k));
            due("clear " + k, votes.clear(0, k), k == -2 ? -1 : Oracle.kth(clear, k));
        }
        int p = random.nextInt(11);
        due("odds N " + p, votes.odds(0, p, false), Oracle.odds(room, p)[0]);
        due("odds D " + p, votes.odds(0, p, true), Oracle.odds(room, p)[1]);
        ofPowers();
        int pieces = room.pieces.size();
        for (int a = -1; a <= pieces; a++) {
            for (int b = -1; b <= pieces; b++) {
                boolean there = a >= 0 && b >= 0 && a < pieces && b < pieces;
                due("kin " + a + " " + b, votes.kin(0, a, b), there ? Oracle.kin(room, a, b) : -1);
            }
        }
        int[] motions = {random.nextInt(64), random.nextInt(64), random.nextInt(64)};
        for (boolean order : new boolean[] {false, true}) {
            due("agenda " + order, votes.agenda(0, motions[0], motions[1], motions[2], order),
                Oracle.agenda(room, motions, order));
        }
    }

    private static void ofPowers() {
        due("power 0", votes.power(0, 0), Oracle.leastSet(room));
        for (int p = 0; p < 8; p++) {
            boolean there = p < room.pieces.size();
            due("power 10 + " + p, votes.power(0, 10 + p), there ? Oracle.swings(room, p) : -1);
            if (!there || room.pieces.size() < 8 || p < 2) {
                long[] part = there ? Oracle.part(room, p) : new long[] {-1, -1};
                due("power 20 + " + p, votes.power(0, 20 + p), part[0]);
                due("power 30 + " + p, votes.power(0, 30 + p), part[1]);
            }
        }
        due("weigh 0", votes.weigh(0, 0), Oracle.split(room, false));
        due("weigh 1", votes.weigh(0, 1), Oracle.split(room, true));
        due("weigh 2", votes.weigh(0, 2), Oracle.veto(room));
        due("weigh 3", votes.weigh(0, 3), Oracle.idle(room));
        due("weigh 4", votes.weigh(0, 4), Oracle.alike(room));
    }

    private static void ofAMotion(int motion) {
        fresh();
        String on = "on " + motion + " ";
        due(on + "nearest", votes.nearest(0, motion), Oracle.nearest(room, motion));
        due(on + "worded", votes.worded(0, motion), Oracle.worded(room, motion));
        int to = random.nextInt(64);
        due(on + "walk " + to, votes.walk(0, motion, to), Oracle.walk(room, motion, to));
        due(on + "turn", votes.turn(0, motion), Oracle.turn(room, motion));
        due(on + "damps", votes.damps(0, motion), Oracle.damps(room, motion));
        int n = random.nextInt(10);
        int p = random.nextInt(11);
        due(on + "weather N " + n + " " + p, votes.weather(0, motion, n, p, false), Oracle.weather(room, motion, n, p)[0]);
        due(on + "weather D " + n + " " + p, votes.weather(0, motion, n, p, true), Oracle.weather(room, motion, n, p)[1]);
        ofPieces(on, motion);
        ofPeople(on, motion);
        ofWaxes(on, motion);
    }

    private static void ofPieces(String on, int motion) {
        Oracle.Vote vote = room.vote(motion);
        due(on + "answer 0", votes.answer(0, motion, 0), vote.carried() ? 1 : 0);
        due(on + "answer 1", votes.answer(0, motion, 1), vote.ayes);
        due(on + "answer 2", votes.answer(0, motion, 2), vote.noes);
        for (int p = 0; p < room.pieces.size(); p++) {
            due(on + "loud " + p, votes.answer(0, motion, 10 + p), room.loud(p, motion));
            due(on + "said " + p, votes.answer(0, motion, 20 + p), List.of("", "aye", "no").indexOf(vote.said.get(p)));
            due(on + "hush " + p, votes.hush(0, motion, p), Oracle.hush(room, motion, p));
            due(on + "wake " + p, votes.wake(0, motion, p), Oracle.wake(room, motion, p));
            due(on + "tips " + p, votes.tips(0, motion, p), Oracle.tips(room, motion, p));
        }
        due(on + "oaken", votes.oaken(0, motion), Oracle.oaken(room, motion));
        due(on + "hinge", votes.hinge(0, motion, false), Oracle.hinge(room, motion));
        due(on + "loudest", votes.hinge(0, motion, true), Oracle.loudest(room, motion));
    }

    private static void ofPeople(String on, int motion) {
        int[] row = Oracle.moves(room, motion);
        due(on + "moves", votes.moves(0, motion, -1), row == null ? -1 : Oracle.moved(room, row));
        Oracle.Room greedy = Oracle.greedy(room, motion);
        due(on + "greedy", votes.greedy(0, motion, -1), greedy.vote(motion).lead());
        for (int w = 0; w < room.people.size(); w++) {
            due(on + "moves " + w, votes.moves(0, motion, w), row == null ? -1 : row[w]);
            due(on + "greedy " + w, votes.greedy(0, motion, w), greedy.people.get(w).seat);
            due(on + "place " + w, votes.place(0, motion, w, false), Oracle.bestSeat(room, motion, w));
            due(on + "place most " + w, votes.place(0, motion, w, true), Oracle.placeLead(room, motion, w));
        }
        due(on + "weighty", votes.weighty(0, motion), Oracle.weighty(room, motion));
        due(on + "trade", votes.trade(0, motion), Oracle.trade(room, motion));
    }

    private static void ofWaxes(String on, int motion) {
        for (boolean carried : new boolean[] {false, true}) {
            int[] row = Oracle.waxed(room, motion, carried);
            for (int k = -2; k <= 3; k++) {
                int want = row == null || k < -1 || k >= row.length ? -1 : k == -1 ? row.length : row[k];
                due(on + "waxed " + carried + " " + k, votes.waxed(0, motion, carried, k), want);
            }
        }
        for (int n = 0; n <= (room.pieces.size() > 5 ? 3 : 4); n++) {
            due(on + "lobby " + n, votes.lobby(0, motion, n, false), Oracle.lobby(room, motion, n, true) ? 1 : 0);
            due(on + "lobby first " + n, votes.lobby(0, motion, n, true), Oracle.lobbyFirst(room, motion, n));
        }
    }

    private static void ofASession() {
        fresh();
        boolean likely = random.nextInt(4) != 0;
        List<int[]> deeds = likely ? Oracle.likelyDeeds(random, room, 40) : Oracle.randomDeeds(random, 40);
        String text = Oracle.deedsText(deeds);
        String in = "in '" + text + "' ";
        due(in + "text", Play.tell(votes, 1, 0, text), 0);
        due(in + "deeds", votes.deed(0, -1, 0), deeds.size());
        int stop = Oracle.stop(room, deeds);
        due(in + "stop", votes.stop(0, 0), stop);
        for (int n = -1; n <= stop + 1; n += random.nextInt(6) + 1) {
            for (int what = -1; what <= 49; what += random.nextInt(3) + 1) {
                due(in + "state " + n + " " + what, votes.state(0, 0, n, what), Oracle.state(room, deeds, n, what));
            }
        }
        for (int what = 0; what <= 3; what++) {
            due(in + "after " + what, votes.after(0, 0, what), Oracle.after(room, deeds, what));
        }
        int seed = random.nextInt();
        int n = random.nextInt(61);
        for (int what = -1; what <= 50; what++) {
            due("drawn " + seed + " " + n + " " + what, votes.drawn(0, seed, n, what), Oracle.drawn(room, seed, n, what));
        }
    }

    private static void ofALog(int seed) {
        votes = new FurnitureVotes();
        List<int[]> facts = Oracle.randomFacts(random);
        String text = Oracle.factsText(facts);
        where = "log " + seed + " '" + text + "' ";
        due("text", Play.tell(votes, 2, -1, text), 0);
        int fitting = Oracle.fits(facts, 0);
        for (int what = -1; what <= 11 + fitting; what += what < 12 ? 1 : 1 + random.nextInt(9)) {
            due("fits " + what, votes.fits(0, what), Oracle.fits(facts, what));
        }
        for (int wood = 0; wood < 3; wood++) {
            due("bears least " + wood, votes.bears(0, wood, false), Oracle.bears(facts, wood, false));
            due("bears most " + wood, votes.bears(0, wood, true), Oracle.bears(facts, wood, true));
        }
        for (int i = 0; i < 5; i++) {
            int load = random.nextInt(61);
            due("ask " + load, votes.ask(0, load), Oracle.ask(facts, load));
        }
        for (int k = 0; k < facts.size(); k++) {
            for (int what = 0; what < 4; what++) {
                due("fact " + k + " " + what, votes.fact(0, k, what), facts.get(k)[what]);
            }
        }
    }
}
