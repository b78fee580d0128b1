import java.math.BigInteger;
import java.util.ArrayList;
import java.util.Arrays;
import java.util.List;
import java.util.Random;
import java.util.function.Consumer;
import java.util.function.Predicate;

/** The document's terms once more, as plainly and wastefully as can be, to hold the class against. */
final class Oracle {
    static final String[] KINDS = {"bench", "stool", "chair", "table"};
    static final String[] WOODS = {"oak", "walnut", "pine"};
    static final String[] DEEDS = {"motion", "stand", "wax", "set", "sit", "wet", "dry", "night"};

    private Oracle() {
    }

    static final class Piece {
        int kind;
        int wood;
        int age;
        int limit;
        int ear;
        int voices;
        int wax;
        boolean over;

        Piece copy() {
            Piece p = new Piece();
            p.kind = kind;
            p.wood = wood;
            p.age = age;
            p.limit = limit;
            p.ear = ear;
            p.voices = voices;
            p.wax = wax;
            p.over = over;
            return p;
        }
    }

    static final class Person {
        final int weight;
        int seat;

        Person(int weight, int seat) {
            this.weight = weight;
            this.seat = seat;
        }
    }

    static final class Vote {
        int ayes;
        int noes;
        final List<String> said = new ArrayList<>();

        boolean carried() {
            return ayes > noes;
        }

        int lead() {
            return ayes - noes;
        }
    }

    static final class Room {
        final List<Piece> pieces = new ArrayList<>();
        final List<Person> people = new ArrayList<>();
        int damp = 3;

        Room copy() {
            Room r = new Room();
            for (Piece p : pieces) {
                r.pieces.add(p.copy());
            }
            for (Person w : people) {
                r.people.add(new Person(w.weight, w.seat));
            }
            r.damp = damp;
            return r;
        }

        Room with(Consumer<Room> change) {
            Room r = copy();
            change.accept(r);
            return r;
        }

        int load(int p) {
            return people.stream().filter(w -> w.seat == p).mapToInt(w -> w.weight).sum();
        }

        int loud(int p, int motion) {
            Piece piece = pieces.get(p);
            int loud = load(p) + piece.age + damp * piece.wood - 4 * piece.wax;
            for (int m = 0; m < 6; m++) {
                if ((motion >> m) % 2 == 1 && (piece.ear >> m) % 2 == 1) {
                    loud += 3;
                }
            }
            return loud < 0 ? 0 : loud;
        }

        boolean sounds(int p, int motion) {
            return loud(p, motion) >= pieces.get(p).limit;
        }

        Vote vote(int motion) {
            Vote vote = new Vote();
            for (int p = 0; p < pieces.size(); p++) {
                Piece piece = pieces.get(p);
                final int number = p;
                boolean taken = people.stream().anyMatch(w -> w.seat == number);
                String word = "";
                if (!piece.over) {
                    switch (KINDS[piece.kind]) {
                        case "bench" -> word = sounds(p, motion) ? "aye" : "";
                        case "stool" -> word = sounds(p, motion) ? "no" : "";
                        case "chair" -> word = !taken ? "" : sounds(p, motion) ? "aye" : "no";
                        default -> word = vote.lead() > 0 ? "no" : vote.lead() < 0 ? "aye" : "";
                    }
                }
                vote.said.add(word);
                vote.ayes += word.equals("aye") ? piece.voices : 0;
                vote.noes += word.equals("no") ? piece.voices : 0;
            }
            return vote;
        }

        boolean carries(int motion) {
            return vote(motion).carried();
        }

        void night() {
            for (Piece p : pieces) {
                p.age = Math.min(99, p.age + (WOODS[p.wood].equals("pine") ? 2 : 1));
                p.wax = Math.max(0, p.wax - 1);
            }
        }

        String text() {
            StringBuilder text = new StringBuilder("damp " + damp + ";");
            for (Piece p : pieces) {
                text.append(KINDS[p.kind]).append(' ').append(WOODS[p.wood]).append(' ').append(p.age).append(' ')
                    .append(p.limit).append(' ').append(p.ear).append(' ').append(p.voices).append(";");
            }
            for (Person w : people) {
                text.append(w.seat == 8 ? "stands " + w.weight : "sits " + w.weight + " " + w.seat).append(";");
            }
            return text.toString();
        }
    }

    static Room randomRoom(Random random, int mostPieces, int mostPeople) {
        Room room = new Room();
        int pieces = random.nextInt(mostPieces + 1);
        for (int p = 0; p < pieces; p++) {
            Piece piece = new Piece();
            piece.kind = random.nextInt(4);
            piece.wood = random.nextInt(3);
            piece.age = random.nextInt(random.nextInt(4) == 0 ? 51 : 8);
            piece.limit = 1 + random.nextInt(random.nextInt(5) == 0 ? 99 : 30);
            piece.ear = random.nextInt(64);
            piece.voices = 1 + random.nextInt(random.nextBoolean() ? 9 : 3);
            room.pieces.add(piece);
        }
        int people = random.nextInt(mostPeople + 1);
        for (int w = 0; w < people; w++) {
            int seat = pieces == 0 || random.nextInt(4) == 0 ? 8 : random.nextInt(pieces);
            room.people.add(new Person(1 + random.nextInt(random.nextBoolean() ? 30 : 10), seat));
        }
        room.damp = random.nextInt(10);
        return room;
    }

    // Sessions.

    static final class Run {
        Room room;
        int motions;
        int carried;
        int ayes;
        int noes;
        final List<Vote> votes = new ArrayList<>();

        Run(Room told) {
            room = told.copy();
        }

        /** Does a deed; false if it can't be. */
        boolean does(int[] deed) {
            String name = DEEDS[deed[0]];
            int a = deed[1];
            int b = deed[2];
            switch (name) {
                case "motion" -> put(a);
                case "night" -> room.night();
                case "wet" -> {
                    if (room.damp == 9) {
                        return false;
                    }
                    room.damp++;
                }
                case "dry" -> {
                    if (room.damp == 0) {
                        return false;
                    }
                    room.damp--;
                }
                case "stand" -> {
                    if (a >= room.people.size() || room.people.get(a).seat == 8) {
                        return false;
                    }
                    room.people.get(a).seat = 8;
                }
                case "sit" -> {
                    if (a >= room.people.size() || b >= room.pieces.size() || room.pieces.get(b).over
                        || room.people.get(a).seat == b) {
                        return false;
                    }
                    room.people.get(a).seat = b;
                }
                case "wax" -> {
                    if (a >= room.pieces.size() || room.pieces.get(a).wax == 9) {
                        return false;
                    }
                    room.pieces.get(a).wax++;
                }
                default -> {
                    if (a >= room.pieces.size() || !room.pieces.get(a).over) {
                        return false;
                    }
                    room.pieces.get(a).over = false;
                }
            }
            return true;
        }

        void put(int motion) {
            Vote vote = room.vote(motion);
            votes.add(vote);
            motions++;
            carried += vote.carried() ? 1 : 0;
            ayes = vote.ayes;
            noes = vote.noes;
            for (int p = 0; p < room.pieces.size(); p++) {
                if (room.pieces.get(p).kind == 1 && vote.said.get(p).equals("no")) {
                    room.pieces.get(p).over = true;
                    for (Person w : room.people) {
                        w.seat = w.seat == p ? 8 : w.seat;
                    }
                }
            }
        }

        int overs() {
            int bits = 0;
            for (int p = 0; p < room.pieces.size(); p++) {
                bits += room.pieces.get(p).over ? 1 << p : 0;
            }
            return bits;
        }

        int tell(int what) {
            int[] whole = {motions, carried, room.damp, overs(), ayes, noes};
            if (what >= 0 && what < 6) {
                return whole[what];
            }
            int i = Math.floorMod(what, 10);
            int tens = Math.floorDiv(what, 10);
            if (tens == 4) {
                return i < room.people.size() ? room.people.get(i).seat : -2;
            }
            if (tens < 1 || tens > 3 || i >= room.pieces.size()) {
                return -2;
            }
            return tens == 1 ? room.pieces.get(i).age : tens == 2 ? room.pieces.get(i).wax : room.load(i);
        }
    }

    static List<int[]> randomDeeds(Random random, int most) {
        List<int[]> deeds = new ArrayList<>();
        int size = random.nextInt(most + 1);
        for (int k = 0; k < size; k++) {
            int sort = random.nextInt(3) == 0 ? 0 : random.nextInt(8);
            int a = -1;
            int b = -1;
            if (sort == 0) {
                a = random.nextInt(64);
            } else if (sort == 1) {
                a = random.nextInt(6);
            } else if (sort == 2 || sort == 3) {
                a = random.nextInt(8);
            } else if (sort == 4) {
                a = random.nextInt(6);
                b = random.nextInt(8);
            }
            deeds.add(new int[] {sort, a, b});
        }
        return deeds;
    }

    /** Deeds that may be, for the most part, in a room. */
    static List<int[]> likelyDeeds(Random random, Room room, int most) {
        List<int[]> deeds = new ArrayList<>();
        Run run = new Run(room);
        for (int tries = 0; tries < 4 * most && deeds.size() < most; tries++) {
            for (int[] deed : randomDeeds(random, 1)) {
                if (run.does(deed) || random.nextInt(40) == 0) {
                    deeds.add(deed);
                }
            }
        }
        return deeds;
    }

    static String deedsText(List<int[]> deeds) {
        StringBuilder text = new StringBuilder();
        for (int[] deed : deeds) {
            text.append(DEEDS[deed[0]]);
            text.append(deed[1] < 0 ? "" : " " + deed[1]).append(deed[2] < 0 ? "" : " " + deed[2]).append(";");
        }
        return text.toString();
    }

    static int stop(Room room, List<int[]> deeds) {
        Run run = new Run(room);
        for (int k = 0; k < deeds.size(); k++) {
            if (!run.does(deeds.get(k))) {
                return k;
            }
        }
        return deeds.size();
    }

    static int state(Room room, List<int[]> deeds, int n, int what) {
        if (n < 0 || n > stop(room, deeds)) {
            return -2;
        }
        Run run = new Run(room);
        deeds.subList(0, n).forEach(run::does);
        return run.tell(what);
    }

    static int after(Room room, List<int[]> deeds, int what) {
        int stop = stop(room, deeds);
        if (what == 0) {
            for (int n = 0; n <= stop; n++) {
                if (state(room, deeds, n, 3) != 0) {
                    return n;
                }
            }
            return -1;
        }
        Run run = new Run(room);
        deeds.subList(0, stop).forEach(run::does);
        if (what == 1) {
            int best = -1;
            long most = 0;
            for (int p = 0; p < room.pieces.size(); p++) {
                final int number = p;
                long nays = run.votes.stream().filter(v -> v.said.get(number).equals("no")).count();
                if (nays > most) {
                    most = nays;
                    best = p;
                }
            }
            return best;
        }
        if (what != 2) {
            return -2;
        }
        StringBuilder row = new StringBuilder();
        run.votes.forEach(v -> row.append(v.carried() ? 'c' : ' '));
        return Arrays.stream(row.toString().split(" ")).mapToInt(String::length).max().orElse(0);
    }

    static int drawn(Room room, int seed, int n, int what) {
        Run run = new Run(room);
        int[] x = {seed};
        int people = room.people.size();
        int pieces = room.pieces.size();
        for (int i = 0; i < n; i++) {
            int sort = below(x, 8);
            if (sort <= 1) {
                run.does(new int[] {0, below(x, 64), -1});
            } else if (sort == 2 && people > 0) {
                int w = below(x, people);
                if (pieces > 0) {
                    run.does(new int[] {4, w, below(x, pieces)});
                }
            } else if (sort == 3 && people > 0) {
                run.does(new int[] {1, below(x, people), -1});
            } else if ((sort == 4 || sort == 5) && pieces > 0) {
                run.does(new int[] {sort - 2, below(x, pieces), -1});
            } else if (sort == 6) {
                run.does(new int[] {5 + below(x, 2), -1, -1});
            } else if (sort == 7) {
                run.does(new int[] {7, -1, -1});
            }
        }
        return run.tell(what);
    }

    private static int below(int[] x, int n) {
        long next = (x[0] * 1103515245L + 12345L) & 0xFFFFFFFFL;
        x[0] = (int) next;
        return (int) ((next >> 16) % n);
    }

    static int agenda(Room room, int[] motions, boolean order) {
        int most = -1;
        int best = -1;
        for (int code = 0; code < 1000; code++) {
            int[] digits = {code / 100, code / 10 % 10, code % 10};
            if (Arrays.stream(digits).distinct().count() == 3 && Arrays.stream(digits).allMatch(d -> d < 3)) {
                Run run = new Run(room);
                Arrays.stream(digits).forEach(d -> run.put(motions[d]));
                if (run.carried > most) {
                    most = run.carried;
                    best = code;
                }
            }
        }
        return order ? best : most;
    }

    // By motions.

    static List<Integer> motions(Predicate<Integer> test) {
        List<Integer> found = new ArrayList<>();
        for (int m = 0; m < 64; m++) {
            if (test.test(m)) {
                found.add(m);
            }
        }
        return found;
    }

    static List<Integer> carried(Room room) {
        return motions(room::carries);
    }

    static List<Integer> clear(Room room) {
        return motions(m -> room.vote(m).said.contains("aye") && !room.vote(m).said.contains("no"));
    }

    static int kth(List<Integer> list, int k) {
        return k == -1 ? list.size() : k >= 0 && k < list.size() ? list.get(k) : -1;
    }

    static int nearest(Room room, int motion) {
        for (int others = 0; others <= 6; others++) {
            for (int m : carried(room)) {
                if (Integer.bitCount(m ^ motion) == others) {
                    return m;
                }
            }
        }
        return -1;
    }

    static int worded(Room room, int matters) {
        for (int number = 0; number <= 6; number++) {
            for (int m : carried(room)) {
                if (Integer.bitCount(m) == number && (m | matters) == m) {
                    return m;
                }
            }
        }
        return -1;
    }

    static int kin(Room room, int a, int b) {
        return motions(m -> {
            List<String> said = room.vote(m).said;
            return !said.get(a).isEmpty() && said.get(a).equals(said.get(b));
        }).size();
    }

    static int walk(Room room, int from, int to) {
        int[] steps = new int[64];
        Arrays.fill(steps, 1000);
        if (room.carries(from)) {
            steps[from] = 0;
        }
        List<Integer> carried = carried(room);
        for (int round = 0; round < 64; round++) {
            for (int m : carried) {
                for (int other : carried) {
                    if (Integer.bitCount(m ^ other) == 1) {
                        steps[m] = Math.min(steps[m], steps[other] + 1);
                    }
                }
            }
        }
        return steps[to] < 1000 ? steps[to] : -1;
    }

    static long[] leastTerms(long n, long d) {
        long g = BigInteger.valueOf(n).gcd(BigInteger.valueOf(d)).longValue();
        return new long[] {n / g, d / g};
    }

    static long[] odds(Room room, int p) {
        long sum = 0;
        for (int m : carried(room)) {
            int in = Integer.bitCount(m);
            sum += Math.round(Math.pow(p, in) * Math.pow(10 - p, 6 - in));
        }
        return leastTerms(sum, 1000000);
    }

    // By damp and nights.

    static long[] weather(Room room, int motion, int n, int p) {
        long sum = 0;
        for (int days = 0; days < 1 << n; days++) {
            int damp = room.damp;
            long weight = 1;
            for (int day = 0; day < n; day++) {
                boolean wet = (days >> day & 1) == 1;
                weight *= wet ? p : 10 - p;
                damp = wet ? Math.min(9, damp + 1) : Math.max(0, damp - 1);
            }
            sum += (damps(room, motion) >> damp & 1) * weight;
        }
        return leastTerms(sum, Math.round(Math.pow(10, n)));
    }

    static int damps(Room room, int motion) {
        int bits = 0;
        for (int d = 0; d < 10; d++) {
            final int damp = d;
            bits |= room.with(r -> r.damp = damp).carries(motion) ? 1 << d : 0;
        }
        return bits;
    }

    static int turn(Room room, int motion) {
        Room later = room.copy();
        for (int nights = 1; nights <= 40; nights++) {
            later.night();
            if (later.carries(motion) != room.carries(motion)) {
                return nights;
            }
        }
        return -1;
    }

    static int hush(Room room, int motion, int p) {
        for (int w = 0; w <= 9; w++) {
            final int wax = w;
            if (!room.with(r -> r.pieces.get(p).wax = wax).sounds(p, motion)) {
                return w;
            }
        }
        return -1;
    }

    static int wake(Room room, int motion, int p) {
        Room later = room.copy();
        for (int nights = 0; nights <= 60; nights++) {
            if (later.sounds(p, motion)) {
                return nights;
            }
            later.night();
        }
        return -1;
    }

    static int tips(Room room, int motion, int p) {
        for (int d = 0; d < 10; d++) {
            final int damp = d;
            if (room.pieces.get(p).kind == 1
                && room.with(r -> r.damp = damp).vote(motion).said.get(p).equals("no")) {
                return d;
            }
        }
        return -1;
    }

    // By pieces.

    /** The fewest waxes and their row, or null; all rows of three are tried. */
    static int[] waxed(Room room, int motion, boolean carried) {
        int n = room.pieces.size();
        for (int size = 0; size <= 3; size++) {
            int rows = (int) Math.round(Math.pow(n, size));
            for (int row = 0; row < rows; row++) {
                int[] pieces = new int[size];
                int rest = row;
                for (int i = size - 1; i >= 0; i--) {
                    pieces[i] = rest % n;
                    rest /= n;
                }
                boolean rising = true;
                Room waxed = room.copy();
                for (int i = 0; i < size; i++) {
                    rising &= i == 0 || pieces[i] >= pieces[i - 1];
                    waxed.pieces.get(pieces[i]).wax++;
                }
                if (rising && waxed.carries(motion) == carried) {
                    return pieces;
                }
            }
        }
        return null;
    }

    static boolean lobby(Room room, int motion, int left, boolean wants) {
        if (left == 0) {
            return room.carries(motion);
        }
        boolean any = lobby(room, motion, left - 1, !wants) == wants;
        for (int i = 0; i < room.pieces.size(); i++) {
            final int p = i;
            any |= lobby(room.with(r -> r.pieces.get(p).wax++), motion, left - 1, !wants) == wants;
        }
        return any ? wants : !wants;
    }

    static int lobbyFirst(Room room, int motion, int n) {
        if (n == 0) {
            return -1;
        }
        for (int i = 0; i < room.pieces.size(); i++) {
            final int p = i;
            if (lobby(room.with(r -> r.pieces.get(p).wax++), motion, n - 1, false)) {
                return p;
            }
        }
        return lobby(room, motion, n - 1, false) ? 8 : -1;
    }

    static int oaken(Room room, int motion) {
        for (int size = 1; size <= 8; size++) {
            for (int set = 0; set < 1 << room.pieces.size(); set++) {
                final int bits = set;
                if (Integer.bitCount(set) == size) {
                    Room oaken = room.with(r -> {
                        for (int p = 0; p < r.pieces.size(); p++) {
                            r.pieces.get(p).wood = (bits >> p & 1) == 1 ? 0 : r.pieces.get(p).wood;
                        }
                    });
                    if (oaken.carries(motion) != room.carries(motion)) {
                        return set;
                    }
                }
            }
        }
        return -1;
    }

    static int hinge(Room room, int motion) {
        int bits = 0;
        for (int i = 0; i < room.pieces.size(); i++) {
            final int p = i;
            bits |= room.with(r -> r.pieces.get(p).over = true).carries(motion) != room.carries(motion) ? 1 << i : 0;
        }
        return bits;
    }

    static int loudest(Room room, int motion) {
        int best = -1;
        for (int p = 0; p < room.pieces.size(); p++) {
            if (best == -1 || room.loud(p, motion) > room.loud(best, motion)) {
                best = p;
            }
        }
        return best;
    }

    // By people.

    /** Where all sit then, the fewest having moved, or null: every row of seats is tried. */
    static int[] moves(Room room, int motion) {
        int people = room.people.size();
        int[][] best = new int[3][];
        int rows = (int) Math.round(Math.pow(9, people));
        Room other = room.copy();
        for (int row = 0; row < rows; row++) {
            int rest = row;
            int moved = 0;
            boolean may = true;
            for (int w = people - 1; w >= 0; w--) {
                int seat = rest % 9;
                rest /= 9;
                may &= seat == 8 || seat < room.pieces.size();
                moved += seat != room.people.get(w).seat ? 1 : 0;
                other.people.get(w).seat = seat;
            }
            if (may && moved <= 2 && best[moved] == null && other.carries(motion)) {
                best[moved] = other.people.stream().mapToInt(w -> w.seat).toArray();
            }
        }
        return best[0] != null ? best[0] : best[1] != null ? best[1] : best[2];
    }

    static int moved(Room room, int[] row) {
        int moved = 0;
        for (int w = 0; w < row.length; w++) {
            moved += row[w] != room.people.get(w).seat ? 1 : 0;
        }
        return moved;
    }

    static int weighty(Room room, int motion) {
        int bits = 0;
        for (int i = 0; i < room.people.size(); i++) {
            final int w = i;
            bits |= room.with(r -> r.people.get(w).seat = 8).carries(motion) != room.carries(motion) ? 1 << i : 0;
        }
        return bits;
    }

    static int bestSeat(Room room, int motion, int person) {
        int best = -1;
        int most = -1000;
        for (int s = 0; s <= 8; s++) {
            final int seat = s;
            if (s == 8 || s < room.pieces.size()) {
                int lead = room.with(r -> r.people.get(person).seat = seat).vote(motion).lead();
                if (lead > most) {
                    most = lead;
                    best = s;
                }
            }
        }
        return best;
    }

    static int placeLead(Room room, int motion, int person) {
        int seat = bestSeat(room, motion, person);
        return room.with(r -> r.people.get(person).seat = seat).vote(motion).lead();
    }

    static Room greedy(Room room, int motion) {
        Room then = room.with(r -> r.people.forEach(w -> w.seat = 8));
        for (int w = 0; w < then.people.size(); w++) {
            then.people.get(w).seat = bestSeat(then, motion, w);
        }
        return then;
    }

    static int trade(Room room, int motion) {
        for (int code = 0; code < 60; code++) {
            final int a = code / 10;
            final int b = code % 10;
            if (a < b && b < room.people.size()) {
                Room traded = room.with(r -> {
                    r.people.get(a).seat = room.people.get(b).seat;
                    r.people.get(b).seat = room.people.get(a).seat;
                });
                if (traded.carries(motion) != room.carries(motion)) {
                    return code;
                }
            }
        }
        return -1;
    }

    // By voices.

    static int voices(Room room, int set) {
        int sum = 0;
        for (int p = 0; p < room.pieces.size(); p++) {
            sum += (set >> p & 1) * room.pieces.get(p).voices;
        }
        return sum;
    }

    static boolean wins(Room room, int set) {
        return voices(room, set) > voices(room, 255) / 2.0;
    }

    static int leastSet(Room room) {
        for (int size = 1; size <= 8; size++) {
            for (int set = 0; set < 1 << room.pieces.size(); set++) {
                if (Integer.bitCount(set) == size && wins(room, set)) {
                    return set;
                }
            }
        }
        return 0;
    }

    static int swings(Room room, int p) {
        int number = 0;
        for (int set = 0; set < 1 << room.pieces.size(); set++) {
            if ((set >> p & 1) == 1 && wins(room, set) && !wins(room, set ^ 1 << p)) {
                number++;
            }
        }
        return number;
    }

    /** All orders are gone through. */
    static long[] part(Room room, int p) {
        long[] found = new long[2];
        comeOneByOne(room, p, 0, found);
        return leastTerms(found[0], found[1]);
    }

    private static void comeOneByOne(Room room, int p, int came, long[] found) {
        boolean last = true;
        for (int next = 0; next < room.pieces.size(); next++) {
            if ((came >> next & 1) == 0) {
                last = false;
                int then = came | 1 << next;
                if (next == p && !wins(room, came) && wins(room, then)) {
                    long orders = 1;
                    for (int left = 2; left <= room.pieces.size() - Integer.bitCount(then); left++) {
                        orders *= left;
                    }
                    found[0] += orders;
                }
                comeOneByOne(room, p, then, found);
            }
        }
        found[1] += last ? 1 : 0;
    }

    static int split(Room room, boolean how) {
        int best = 0;
        int all = voices(room, 255);
        for (int set = 0; set < 1 << room.pieces.size(); set++) {
            if (Math.abs(all - 2 * voices(room, set)) < Math.abs(all - 2 * voices(room, best))) {
                best = set;
            }
        }
        return how ? Math.abs(all - 2 * voices(room, best)) : best;
    }

    static int veto(Room room) {
        int bits = (1 << room.pieces.size()) - 1;
        for (int set = 0; set < 1 << room.pieces.size(); set++) {
            bits = wins(room, set) ? bits & set : bits;
        }
        return bits;
    }

    static int idle(Room room) {
        int bits = 0;
        for (int p = 0; p < room.pieces.size(); p++) {
            bits |= swings(room, p) == 0 ? 1 << p : 0;
        }
        return bits;
    }

    static int alike(Room room) {
        int number = 0;
        for (int p = 0; p < room.pieces.size(); p++) {
            for (int q = 0; q < p; q++) {
                boolean unlike = room.pieces.get(p).voices != room.pieces.get(q).voices;
                number += unlike && swings(room, p) == swings(room, q) ? 1 : 0;
            }
        }
        return number;
    }

    // Logs: facts are sounds, load, damp, matters.

    static List<int[]> randomFacts(Random random) {
        List<int[]> facts = new ArrayList<>();
        int wood = random.nextInt(3);
        int limit = 1 + random.nextInt(70);
        int size = random.nextInt(9);
        for (int k = 0; k < size; k++) {
            int load = random.nextInt(61);
            int damp = random.nextInt(10);
            int matters = random.nextInt(7);
            boolean sounds = load + damp * wood + 3 * matters >= limit;
            if (random.nextInt(30) == 0) {
                sounds = !sounds;
            }
            facts.add(new int[] {sounds ? 1 : 0, load, damp, matters});
        }
        return facts;
    }

    static String factsText(List<int[]> facts) {
        StringBuilder text = new StringBuilder();
        for (int[] f : facts) {
            text.append(f[0] == 1 ? "sounds " : "still ").append(f[1]).append(' ').append(f[2]).append(' ')
                .append(f[3]).append(";");
        }
        return text.toString();
    }

    static List<Integer> fitting(List<int[]> facts) {
        List<Integer> found = new ArrayList<>();
        for (int code = 0; code < 297; code++) {
            final int wood = code / 99;
            final int limit = code % 99 + 1;
            if (facts.stream().allMatch(f -> f[0] == (f[1] + f[2] * wood + 3 * f[3] >= limit ? 1 : 0))) {
                found.add(code);
            }
        }
        return found;
    }

    static int fits(List<int[]> facts, int what) {
        List<Integer> fitting = fitting(facts);
        if (what == 0) {
            return fitting.size();
        }
        if (what == 1 || what == 2) {
            List<Integer> all = fitting.stream().map(c -> what == 1 ? c / 99 : c % 99 + 1).distinct().toList();
            return all.size() == 1 ? all.get(0) : -1;
        }
        return what >= 10 && what - 10 < fitting.size() ? fitting.get(what - 10) : -2;
    }

    static int bears(List<int[]> facts, int wood, boolean most) {
        List<Integer> limits = fitting(facts).stream().filter(c -> c / 99 == wood).map(c -> c % 99 + 1).toList();
        return limits.isEmpty() ? -1 : limits.get(most ? limits.size() - 1 : 0);
    }

    static int ask(List<int[]> facts, int load) {
        List<Integer> fitting = fitting(facts);
        int best = -1;
        long fewest = Long.MAX_VALUE;
        for (int code = 0; code < 100 && !fitting.isEmpty(); code++) {
            final int damp = code / 10;
            final int matters = code % 10;
            if (matters <= 6) {
                long sounding = fitting.stream()
                    .filter(c -> load + damp * (c / 99) + 3 * matters >= c % 99 + 1).count();
                long left = Math.max(sounding, fitting.size() - sounding);
                if (left < fewest) {
                    fewest = left;
                    best = code;
                }
            }
        }
        return best;
    }
}
