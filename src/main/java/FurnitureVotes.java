import java.util.Arrays;

/** Carried by the furniture: chambers, sessions and logs told as texts, and what follows from them. */
public final class FurnitureVotes {
    public static final int NONE = -1;

    private static final int NO_SUCH = -2;
    private static final int NO_LEAD = -1000;

    private static final int CHAMBERS = 0;
    private static final int SESSIONS = 1;
    private static final int LOGS = 2;
    private static final int SORTS = 3;
    private static final int MOST_OF_A_SORT = 2;
    private static final int IMAGES = 3;
    private static final int TAPE = 600;
    private static final int FED = 20;

    private static final int PIECES = 8;
    private static final int PEOPLE = 6;
    private static final int DEEDS = 40;
    private static final int FACTS = 8;
    private static final int STANDS = 8;
    private static final int MOTIONS = 64;
    private static final int MATTERS = 6;
    private static final int MOST_DAMP = 9;
    private static final int FIRST_DAMP = 3;
    private static final int MOST_AGE = 99;
    private static final int MOST_WAX = 9;
    private static final int MOST_LIMIT = 99;
    private static final int MOST_LOAD = 60;
    private static final int MOST_DRAWN = 60;
    private static final int TEN = 10;

    private static final int STOOL = 1;
    private static final int CHAIR = 2;
    private static final int TABLE = 3;
    private static final int PINE = 2;
    private static final int WOODS = 3;
    private static final int AYE = 1;
    private static final int NO = 2;

    private static final int MOTION = 0;
    private static final int STAND = 1;
    private static final int WAX = 2;
    private static final int SET = 3;
    private static final int SIT = 4;
    private static final int WET = 5;
    private static final int DRY = 6;
    private static final int NIGHT = 7;

    private static final int[] ORDERS = {12, 21, 102, 120, 201, 210};

    private final Told told;
    private final Told[] images;
    private final boolean[] imaged;
    private final Reader reader;
    private final Hall hall;
    private final Course course;
    private final Verdicts verdicts;
    private final Seating seating;
    private final Joinery joinery;
    private final Powers powers;

    public FurnitureVotes() {
        told = new Told();
        images = new Told[IMAGES];
        for (int k = 0; k < IMAGES; k++) {
            images[k] = new Told();
        }
        imaged = new boolean[IMAGES];
        reader = new Reader();
        hall = new Hall();
        course = new Course();
        verdicts = new Verdicts();
        seating = new Seating();
        joinery = new Joinery();
        powers = new Powers();
    }

    public int feed(int a, int b, int c, int d, int e) {
        if (told.length + FED > TAPE) {
            return NONE;
        }
        told.append(a);
        told.append(b);
        told.append(c);
        told.append(d);
        told.append(e);
        return told.length;
    }

    public int end(int n) {
        if (n < 0 || n > told.length) {
            return NONE;
        }
        told.length = n;
        return n;
    }

    public int text(int sort, int at) {
        // Every text() takes the tape, also one that reads nothing of it.
        int length = told.length;
        told.length = 0;
        told.fault = 0;
        told.faultPlace = NONE;
        int number = told.numberFor(sort, at);
        if (number == NONE) {
            return NO_SUCH;
        }
        reader.read(sort, told.tape, length);
        told.fault = reader.fault;
        told.faultPlace = reader.faultPlace;
        if (reader.fault != 0) {
            return NONE;
        }
        told.keep(sort, number, reader);
        return number;
    }

    public int fault(int what) {
        if (what == 0) {
            return told.fault;
        }
        return what == 1 ? told.faultPlace : NONE;
    }

    public int chamber(int chamber, int what) {
        Chamber room = told.chamberAt(chamber);
        return room == null ? NONE : room.tell(what);
    }

    public int answer(int chamber, int motion, int what) {
        Chamber room = asked(chamber, motion);
        if (room == null) {
            return NONE;
        }
        hall.enter(room);
        hall.vote(motion);
        if (what == 0) {
            return hall.ayes > hall.noes ? 1 : 0;
        }
        if (what == 1) {
            return hall.ayes;
        }
        if (what == 2) {
            return hall.noes;
        }
        if (what >= 10 && what < 10 + room.pieces) {
            return hall.loud(what - 10, motion);
        }
        if (what >= 20 && what < 20 + room.pieces) {
            return hall.said[what - 20];
        }
        return NONE;
    }

    public int deed(int session, int k, int what) {
        Session deeds = told.sessionAt(session);
        return deeds == null ? NO_SUCH : deeds.tell(k, what);
    }

    public int stop(int chamber, int session) {
        Chamber room = told.chamberAt(chamber);
        Session deeds = told.sessionAt(session);
        if (room == null || deeds == null) {
            return NONE;
        }
        return course.follow(room, deeds, deeds.size);
    }

    public int state(int chamber, int session, int n, int what) {
        Chamber room = told.chamberAt(chamber);
        Session deeds = told.sessionAt(session);
        if (room == null || deeds == null || n < 0 || n > deeds.size) {
            return NO_SUCH;
        }
        int done = course.follow(room, deeds, n);
        return done < n ? NO_SUCH : course.tell(what);
    }

    public int carried(int chamber, int k) {
        Chamber room = told.chamberAt(chamber);
        return room == null ? NONE : Verdicts.member(verdicts.carriedSet(room), k);
    }

    public int moves(int chamber, int motion, int k) {
        Chamber room = asked(chamber, motion);
        if (room == null || k < NONE || k >= room.people) {
            return NONE;
        }
        int fewest = seating.fewestMoves(room, motion);
        if (fewest == NONE || k == NONE) {
            return fewest;
        }
        return seating.row[k];
    }

    public int waxed(int chamber, int motion, boolean carried, int k) {
        Chamber room = asked(chamber, motion);
        if (room == null) {
            return NONE;
        }
        int fewest = joinery.fewestWaxes(room, motion, carried);
        if (k == NONE) {
            return fewest;
        }
        return k >= 0 && k < fewest ? joinery.row[k] : NONE;
    }

    public int turn(int chamber, int motion) {
        Chamber room = asked(chamber, motion);
        return room == null ? NONE : verdicts.nightsToTurn(room, motion);
    }

    public int nearest(int chamber, int motion) {
        Chamber room = asked(chamber, motion);
        return room == null ? NONE : Verdicts.nearestOf(verdicts.carriedSet(room), motion);
    }

    public int lobby(int chamber, int motion, int n, boolean first) {
        Chamber room = asked(chamber, motion);
        if (room == null || n < 0 || n > Joinery.MOST_LOBBY) {
            return NO_SUCH;
        }
        if (first) {
            return n == 0 ? NONE : joinery.firstChoice(room, motion, n);
        }
        return joinery.lobbied(room, motion, n) ? 1 : 0;
    }

    public int power(int chamber, int what) {
        Chamber room = told.chamberAt(chamber);
        if (room == null) {
            return NONE;
        }
        powers.hear(room);
        if (what == 0) {
            return powers.leastSet();
        }
        if (what >= 10 && what < 10 + room.pieces) {
            return powers.swings[what - 10];
        }
        if (what >= 20 && what < 20 + room.pieces) {
            return powers.part(what - 20, false);
        }
        if (what >= 30 && what < 30 + room.pieces) {
            return powers.part(what - 30, true);
        }
        return NONE;
    }

    public long weather(int chamber, int motion, int n, int p, boolean under) {
        Chamber room = asked(chamber, motion);
        if (room == null || n < 0 || n > Verdicts.MOST_DAYS || p < 0 || p > TEN) {
            return NONE;
        }
        return leastTerms(verdicts.chancesBehind(room, motion, n, p), powerOfTen(n), under);
    }

    public int fact(int log, int k, int what) {
        Log facts = told.logAt(log);
        return facts == null ? NO_SUCH : facts.tell(k, what);
    }

    public int fits(int log, int what) {
        Log facts = told.logAt(log);
        if (facts == null) {
            return NO_SUCH;
        }
        if (what == 0) {
            return facts.fitting();
        }
        if (what == 1) {
            return facts.sureWood();
        }
        if (what == 2) {
            return facts.sureLimit();
        }
        return what >= 10 ? facts.fittingAt(what - 10) : NO_SUCH;
    }

    public int ask(int log, int load) {
        Log facts = told.logAt(log);
        if (facts == null || load < 0 || load > MOST_LOAD) {
            return NONE;
        }
        return facts.bestQuestion(load);
    }

    public int drawn(int chamber, int seed, int n, int what) {
        Chamber room = told.chamberAt(chamber);
        if (room == null || n < 0 || n > MOST_DRAWN) {
            return NO_SUCH;
        }
        course.draw(room, seed, n);
        return course.tell(what);
    }

    public int hush(int chamber, int motion, int piece) {
        Chamber room = askedOf(chamber, motion, piece);
        return room == null ? NONE : joinery.waxesToHush(room, motion, piece);
    }

    public int wake(int chamber, int motion, int piece) {
        Chamber room = askedOf(chamber, motion, piece);
        return room == null ? NONE : joinery.nightsToWake(room, motion, piece);
    }

    public int damps(int chamber, int motion) {
        Chamber room = asked(chamber, motion);
        return room == null ? NONE : verdicts.carryingDamps(room, motion);
    }

    public int tips(int chamber, int motion, int piece) {
        Chamber room = askedOf(chamber, motion, piece);
        return room == null ? NONE : joinery.dampToTip(room, motion, piece);
    }

    public int weighty(int chamber, int motion) {
        Chamber room = asked(chamber, motion);
        return room == null ? NONE : seating.whoTurnsByStanding(room, motion);
    }

    public int worded(int chamber, int matters) {
        Chamber room = asked(chamber, matters);
        return room == null ? NONE : Verdicts.fewestWith(verdicts.carriedSet(room), matters);
    }

    public int clear(int chamber, int k) {
        Chamber room = told.chamberAt(chamber);
        return room == null ? NONE : Verdicts.member(verdicts.clearSet(room), k);
    }

    public int greedy(int chamber, int motion, int k) {
        Chamber room = asked(chamber, motion);
        if (room == null || k < NONE || k >= room.people) {
            return NO_LEAD;
        }
        int lead = seating.seatGreedily(room, motion);
        return k == NONE ? lead : seating.seatOf(k);
    }

    public int agenda(int chamber, int a, int b, int c, boolean order) {
        Chamber room = told.chamberAt(chamber);
        if (room == null || !isMotion(a) || !isMotion(b) || !isMotion(c)) {
            return NONE;
        }
        int most = NONE;
        int best = NONE;
        for (int i = 0; i < ORDERS.length; i++) {
            int first = pick(ORDERS[i] / 100, a, b, c);
            int second = pick(ORDERS[i] / 10 % 10, a, b, c);
            int third = pick(ORDERS[i] % 10, a, b, c);
            int number = course.putThree(room, first, second, third);
            if (number > most) {
                most = number;
                best = ORDERS[i];
            }
        }
        return order ? best : most;
    }

    public long odds(int chamber, int p, boolean under) {
        Chamber room = told.chamberAt(chamber);
        if (room == null || p < 0 || p > TEN) {
            return NONE;
        }
        long chances = Verdicts.chancesOf(verdicts.carriedSet(room), p);
        return leastTerms(chances, powerOfTen(MATTERS), under);
    }

    public int weigh(int chamber, int what) {
        Chamber room = told.chamberAt(chamber);
        if (room == null) {
            return NONE;
        }
        powers.hear(room);
        switch (what) {
            case 0:
                return powers.evenestSet();
            case 1:
                return powers.difference(powers.evenestSet());
            case 2:
                return powers.vetoes();
            case 3:
                return powers.idle();
            case 4:
                return powers.alike();
            default:
                return NONE;
        }
    }

    public int after(int chamber, int session, int what) {
        Chamber room = told.chamberAt(chamber);
        Session deeds = told.sessionAt(session);
        if (room == null || deeds == null) {
            return NO_SUCH;
        }
        course.follow(room, deeds, deeds.size);
        if (what == 0) {
            return course.falls;
        }
        if (what == 1) {
            return course.mostNays();
        }
        return what == 2 ? course.longest : NO_SUCH;
    }

    public int bears(int log, int wood, boolean most) {
        Log facts = told.logAt(log);
        if (facts == null || wood < 0 || wood >= WOODS || facts.fittingOf(wood) == 0) {
            return NONE;
        }
        return most ? facts.mostLimit(wood) : facts.leastLimit(wood);
    }

    public int kin(int chamber, int a, int b) {
        Chamber room = told.chamberAt(chamber);
        return room == null ? NONE : verdicts.agreements(room, a, b);
    }

    public int trade(int chamber, int motion) {
        Chamber room = asked(chamber, motion);
        return room == null ? NONE : seating.firstTrade(room, motion);
    }

    public int oaken(int chamber, int motion) {
        Chamber room = asked(chamber, motion);
        return room == null ? NONE : joinery.fewestOaken(room, motion);
    }

    public int walk(int chamber, int from, int to) {
        Chamber room = asked(chamber, from);
        if (room == null || !isMotion(to)) {
            return NONE;
        }
        return Verdicts.stepsWithin(verdicts.carriedSet(room), from, to);
    }

    public int place(int chamber, int motion, int person, boolean most) {
        Chamber room = asked(chamber, motion);
        if (room == null || !room.hasPerson(person)) {
            return NO_LEAD;
        }
        int lead = seating.seatOneBest(room, motion, person);
        return most ? lead : seating.seatOf(person);
    }

    public int hinge(int chamber, int motion, boolean loudest) {
        Chamber room = asked(chamber, motion);
        if (room == null) {
            return NONE;
        }
        return loudest ? joinery.loudestPiece(room, motion) : joinery.hinges(room, motion);
    }

    public int count(int sort) {
        return sort < 0 || sort >= SORTS ? NO_SUCH : told.counts[sort];
    }

    public boolean image(int k) {
        if (k < 0 || k >= IMAGES) {
            return false;
        }
        images[k].copyFrom(told);
        imaged[k] = true;
        return true;
    }

    public boolean again(int k) {
        if (k < 0 || k >= IMAGES || !imaged[k]) {
            return false;
        }
        told.copyFrom(images[k]);
        return true;
    }

    /** The chamber, or null if there is none such or the motion is another one. */
    private Chamber asked(int chamber, int motion) {
        return isMotion(motion) ? told.chamberAt(chamber) : null;
    }

    /** The chamber, or null if it, the motion or the piece is not there. */
    private Chamber askedOf(int chamber, int motion, int piece) {
        Chamber room = asked(chamber, motion);
        return room == null || !room.hasPiece(piece) ? null : room;
    }

    private static boolean isMotion(int motion) {
        return motion >= 0 && motion < MOTIONS;
    }

    private static int pick(int which, int a, int b, int c) {
        if (which == 0) {
            return a;
        }
        return which == 1 ? b : c;
    }

    private static long powerOfTen(int n) {
        long power = 1;
        for (int i = 0; i < n; i++) {
            power *= TEN;
        }
        return power;
    }

    private static long leastTerms(long over, long under, boolean askUnder) {
        long divisor = under;
        long rest = over;
        for (int i = 0; i < 200 && rest != 0; i++) {
            long next = divisor % rest;
            divisor = rest;
            rest = next;
        }
        if (divisor == 0) {
            return NONE;
        }
        return (askUnder ? under : over) / divisor;
    }

    /** All that is told: the tape, the fault, the texts that were taken. */
    private static final class Told {
        final byte[] tape = new byte[TAPE];
        int length;
        int fault;
        int faultPlace = NONE;
        final int[] counts = new int[SORTS];
        private final Chamber[] chambers = new Chamber[MOST_OF_A_SORT];
        private final Session[] sessions = new Session[MOST_OF_A_SORT];
        private final Log[] logs = new Log[MOST_OF_A_SORT];

        Told() {
            for (int i = 0; i < MOST_OF_A_SORT; i++) {
                chambers[i] = new Chamber();
                sessions[i] = new Session();
                logs[i] = new Log();
            }
        }

        void append(int number) {
            for (int shift = 24; shift >= 0; shift -= 8) {
                if (length >= 0 && length < tape.length) {
                    tape[length] = (byte) (number >> shift);
                    length++;
                }
            }
        }

        /** The number that a text of this sort would have there, or NONE. */
        int numberFor(int sort, int at) {
            if (sort < 0 || sort >= SORTS) {
                return NONE;
            }
            int have = counts[sort];
            if (at == NONE) {
                return have < MOST_OF_A_SORT ? have : NONE;
            }
            return at >= 0 && at < have ? at : NONE;
        }

        void keep(int sort, int number, Reader reader) {
            if (sort < 0 || sort >= SORTS || number < 0 || number >= MOST_OF_A_SORT) {
                return;
            }
            if (sort == CHAMBERS) {
                chambers[number].copyFrom(reader.chamber);
            } else if (sort == SESSIONS) {
                sessions[number].copyFrom(reader.session);
            } else {
                logs[number].copyFrom(reader.log);
            }
            counts[sort] = Math.max(counts[sort], number + 1);
        }

        Chamber chamberAt(int i) {
            return isThere(CHAMBERS, i) ? chambers[i] : null;
        }

        Session sessionAt(int i) {
            return isThere(SESSIONS, i) ? sessions[i] : null;
        }

        Log logAt(int i) {
            return isThere(LOGS, i) ? logs[i] : null;
        }

        private boolean isThere(int sort, int i) {
            return i >= 0 && i < MOST_OF_A_SORT && i < counts[sort];
        }

        void copyFrom(Told other) {
            System.arraycopy(other.tape, 0, tape, 0, TAPE);
            length = other.length;
            fault = other.fault;
            faultPlace = other.faultPlace;
            System.arraycopy(other.counts, 0, counts, 0, SORTS);
            for (int i = 0; i < MOST_OF_A_SORT; i++) {
                chambers[i].copyFrom(other.chambers[i]);
                sessions[i].copyFrom(other.sessions[i]);
                logs[i].copyFrom(other.logs[i]);
            }
        }
    }

    private static final class Chamber {
        int pieces;
        int people;
        int damp = FIRST_DAMP;
        final int[] kind = new int[PIECES];
        final int[] wood = new int[PIECES];
        final int[] age = new int[PIECES];
        final int[] limit = new int[PIECES];
        final int[] ear = new int[PIECES];
        final int[] voices = new int[PIECES];
        final int[] weight = new int[PEOPLE];
        final int[] seat = new int[PEOPLE];

        void empty() {
            pieces = 0;
            people = 0;
            damp = FIRST_DAMP;
        }

        void addPiece(int itsKind, int itsWood, int[] numbers) {
            if (pieces >= PIECES || numbers.length < 4) {
                return;
            }
            kind[pieces] = itsKind;
            wood[pieces] = itsWood;
            age[pieces] = numbers[0];
            limit[pieces] = numbers[1];
            ear[pieces] = numbers[2];
            voices[pieces] = numbers[3];
            pieces++;
        }

        void addPerson(int itsWeight, int itsSeat) {
            if (people >= PEOPLE) {
                return;
            }
            weight[people] = itsWeight;
            seat[people] = itsSeat;
            people++;
        }

        boolean hasPiece(int p) {
            return p >= 0 && p < pieces;
        }

        boolean hasPerson(int w) {
            return w >= 0 && w < people;
        }

        /** Whether somebody sits on a piece that is not there. */
        boolean hasLostSeat() {
            for (int w = 0; w < people; w++) {
                if (seat[w] != STANDS && !hasPiece(seat[w])) {
                    return true;
                }
            }
            return false;
        }

        int tell(int what) {
            if (what < 0 || what >= 90) {
                return NONE;
            }
            if (what < 10) {
                return tellWhole(what);
            }
            int i = what % 10;
            return what < 70 ? tellPiece(what / 10, i) : tellPerson(what / 10, i);
        }

        private int tellWhole(int what) {
            if (what == 0) {
                return pieces;
            }
            if (what == 1) {
                return people;
            }
            return what == 2 ? damp : NONE;
        }

        private int tellPiece(int tens, int p) {
            if (!hasPiece(p)) {
                return NONE;
            }
            switch (tens) {
                case 1:
                    return kind[p];
                case 2:
                    return wood[p];
                case 3:
                    return age[p];
                case 4:
                    return limit[p];
                case 5:
                    return ear[p];
                case 6:
                    return voices[p];
                default:
                    return NONE;
            }
        }

        private int tellPerson(int tens, int w) {
            if (!hasPerson(w)) {
                return NONE;
            }
            return tens == 7 ? weight[w] : seat[w];
        }

        void copyFrom(Chamber other) {
            pieces = other.pieces;
            people = other.people;
            damp = other.damp;
            System.arraycopy(other.kind, 0, kind, 0, PIECES);
            System.arraycopy(other.wood, 0, wood, 0, PIECES);
            System.arraycopy(other.age, 0, age, 0, PIECES);
            System.arraycopy(other.limit, 0, limit, 0, PIECES);
            System.arraycopy(other.ear, 0, ear, 0, PIECES);
            System.arraycopy(other.voices, 0, voices, 0, PIECES);
            System.arraycopy(other.weight, 0, weight, 0, PEOPLE);
            System.arraycopy(other.seat, 0, seat, 0, PEOPLE);
        }
    }

    private static final class Session {
        int size;
        final int[] sort = new int[DEEDS];
        final int[] first = new int[DEEDS];
        final int[] second = new int[DEEDS];

        void empty() {
            size = 0;
        }

        void add(int itsSort, int itsFirst, int itsSecond) {
            if (size >= DEEDS) {
                return;
            }
            sort[size] = itsSort;
            first[size] = itsFirst;
            second[size] = itsSecond;
            size++;
        }

        int tell(int k, int what) {
            if (k == NONE) {
                return what == 0 ? size : NO_SUCH;
            }
            if (k < 0 || k >= size) {
                return NO_SUCH;
            }
            if (what == 0) {
                return sort[k];
            }
            if (what == 1) {
                return first[k];
            }
            return what == 2 ? second[k] : NO_SUCH;
        }

        void copyFrom(Session other) {
            size = other.size;
            System.arraycopy(other.sort, 0, sort, 0, DEEDS);
            System.arraycopy(other.first, 0, first, 0, DEEDS);
            System.arraycopy(other.second, 0, second, 0, DEEDS);
        }
    }

    /** What one piece did. The limits that fit with one wood always lie side by side, so two ends tell them. */
    private static final class Log {
        int size;
        final int[] sounded = new int[FACTS];
        final int[] load = new int[FACTS];
        final int[] damp = new int[FACTS];
        final int[] matters = new int[FACTS];

        void empty() {
            size = 0;
        }

        void add(int itSounded, int itsLoad, int itsDamp, int itsMatters) {
            if (size >= FACTS) {
                return;
            }
            sounded[size] = itSounded;
            load[size] = itsLoad;
            damp[size] = itsDamp;
            matters[size] = itsMatters;
            size++;
        }

        int tell(int k, int what) {
            if (k == NONE) {
                return what == 0 ? size : NO_SUCH;
            }
            if (k < 0 || k >= size) {
                return NO_SUCH;
            }
            switch (what) {
                case 0:
                    return sounded[k];
                case 1:
                    return load[k];
                case 2:
                    return damp[k];
                case 3:
                    return matters[k];
                default:
                    return NO_SUCH;
            }
        }

        private static int loudness(int wood, int load, int damp, int matters) {
            return load + damp * wood + 3 * matters;
        }

        int leastLimit(int wood) {
            int least = 1;
            for (int k = 0; k < size; k++) {
                if (sounded[k] == 0) {
                    least = Math.max(least, loudness(wood, load[k], damp[k], matters[k]) + 1);
                }
            }
            return least;
        }

        int mostLimit(int wood) {
            int most = MOST_LIMIT;
            for (int k = 0; k < size; k++) {
                if (sounded[k] != 0) {
                    most = Math.min(most, loudness(wood, load[k], damp[k], matters[k]));
                }
            }
            return most;
        }

        /** How many limits fit with this wood. */
        int fittingOf(int wood) {
            return Math.max(0, mostLimit(wood) - leastLimit(wood) + 1);
        }

        int fitting() {
            int all = 0;
            for (int wood = 0; wood < WOODS; wood++) {
                all += fittingOf(wood);
            }
            return all;
        }

        int fittingAt(int k) {
            int left = k;
            for (int wood = 0; wood < WOODS; wood++) {
                int here = fittingOf(wood);
                if (left < here) {
                    return MOST_LIMIT * wood + leastLimit(wood) - 1 + left;
                }
                left -= here;
            }
            return NO_SUCH;
        }

        int sureWood() {
            int sure = NONE;
            for (int wood = 0; wood < WOODS; wood++) {
                if (fittingOf(wood) > 0) {
                    if (sure != NONE) {
                        return NONE;
                    }
                    sure = wood;
                }
            }
            return sure;
        }

        int sureLimit() {
            int sure = NONE;
            for (int wood = 0; wood < WOODS; wood++) {
                int here = fittingOf(wood);
                if (here > 0) {
                    int limit = leastLimit(wood);
                    if (here > 1 || sure != NONE && sure != limit) {
                        return NONE;
                    }
                    sure = limit;
                }
            }
            return sure;
        }

        int bestQuestion(int askedLoad) {
            int all = fitting();
            if (all == 0) {
                return NONE;
            }
            int best = NONE;
            int fewest = all + 1;
            for (int askedDamp = 0; askedDamp <= MOST_DAMP; askedDamp++) {
                for (int asked = 0; asked <= MATTERS; asked++) {
                    int sounding = soundingAt(askedLoad, askedDamp, asked);
                    int left = Math.max(sounding, all - sounding);
                    if (left < fewest) {
                        fewest = left;
                        best = 10 * askedDamp + asked;
                    }
                }
            }
            return best;
        }

        /** How many of those that fit would sound. */
        private int soundingAt(int askedLoad, int askedDamp, int asked) {
            int sounding = 0;
            for (int wood = 0; wood < WOODS; wood++) {
                int loud = loudness(wood, askedLoad, askedDamp, asked);
                int upTo = Math.min(loud, mostLimit(wood));
                sounding += Math.max(0, upTo - leastLimit(wood) + 1);
            }
            return sounding;
        }

        void copyFrom(Log other) {
            size = other.size;
            System.arraycopy(other.sounded, 0, sounded, 0, FACTS);
            System.arraycopy(other.load, 0, load, 0, FACTS);
            System.arraycopy(other.damp, 0, damp, 0, FACTS);
            System.arraycopy(other.matters, 0, matters, 0, FACTS);
        }
    }

    /** Reads a tape as a text into drafts, which are worth something only where there was no fault. */
    private static final class Reader {
        private static final int END = 0;
        private static final int WORD = 1;
        private static final int NUMBER = 2;
        private static final int MARK = 3;
        private static final int WRONG = 4;

        private static final String CHAMBER_HEADS = "bench stool chair table sits stands damp ";
        private static final String SESSION_HEADS = "motion stand wax set sit wet dry night ";
        private static final String LOG_HEADS = "still sounds ";
        private static final String WOOD_NAMES = "oak walnut pine ";

        private static final int SITS_HEAD = 4;
        private static final int STANDS_HEAD = 5;
        private static final int FIRST_SESSION_HEAD = 7;
        private static final int FIRST_LOG_HEAD = 15;
        private static final int HEADS = 17;

        /** Of each head: how many numbers, then the least of each, then the greatest of each. */
        private static final int ROW = 9;
        private static final int[] RANGES = {
            4, 0, 1, 0, 1, 50, 99, 63, 9,
            4, 0, 1, 0, 1, 50, 99, 63, 9,
            4, 0, 1, 0, 1, 50, 99, 63, 9,
            4, 0, 1, 0, 1, 50, 99, 63, 9,
            2, 1, 0, 0, 0, 30, 7, 0, 0,
            1, 1, 0, 0, 0, 30, 0, 0, 0,
            1, 0, 0, 0, 0, 9, 0, 0, 0,
            1, 0, 0, 0, 0, 63, 0, 0, 0,
            1, 0, 0, 0, 0, 5, 0, 0, 0,
            1, 0, 0, 0, 0, 7, 0, 0, 0,
            1, 0, 0, 0, 0, 7, 0, 0, 0,
            2, 0, 0, 0, 0, 5, 7, 0, 0,
            0, 0, 0, 0, 0, 0, 0, 0, 0,
            0, 0, 0, 0, 0, 0, 0, 0, 0,
            0, 0, 0, 0, 0, 0, 0, 0, 0,
            3, 0, 0, 0, 0, 60, 9, 6, 0,
            3, 0, 0, 0, 0, 60, 9, 6, 0,
        };

        final Chamber chamber = new Chamber();
        final Session session = new Session();
        final Log log = new Log();
        int fault;
        int faultPlace;
        private byte[] tape = new byte[0];
        private int length;
        private int token;
        private int start;
        private int next;
        private int value;
        private final int[] numbers = new int[4];

        void read(int sort, byte[] bytes, int size) {
            chamber.empty();
            session.empty();
            log.empty();
            fault = 0;
            faultPlace = NONE;
            tape = bytes;
            length = Math.min(size, bytes.length);
            next = 0;
            advance();
            for (int line = 0; line <= TAPE && token != END && fault != 1; line++) {
                readLine(sort);
            }
            if (sort == CHAMBERS && fault == 0 && chamber.hasLostSeat()) {
                note(4, length);
            }
        }

        private void readLine(int sort) {
            int place = start;
            int head = headOf(sort);
            if (head == NONE) {
                refuse();
                return;
            }
            advance();
            int wood = NONE;
            if (head < SITS_HEAD) {
                wood = wordAmong(WOOD_NAMES);
                if (wood == NONE) {
                    refuse();
                    return;
                }
                advance();
            }
            if (isFull(head)) {
                note(3, place);
            }
            if (!readNumbers(head) || token != MARK) {
                refuse();
                return;
            }
            advance();
            addLine(head, wood);
        }

        /** Whether as many numbers as the head wants come; those that can't be are noted. */
        private boolean readNumbers(int head) {
            if (head < 0 || head >= HEADS) {
                return false;
            }
            int row = head * ROW;
            numbers[0] = NONE;
            numbers[1] = NONE;
            for (int i = 0; i < RANGES[row] && i < numbers.length; i++) {
                if (token != NUMBER) {
                    return false;
                }
                if (value < RANGES[row + 1 + i] || value > RANGES[row + 5 + i]) {
                    note(2, start);
                }
                numbers[i] = value;
                advance();
            }
            return true;
        }

        private int headOf(int sort) {
            if (sort == CHAMBERS) {
                return wordAmong(CHAMBER_HEADS);
            }
            int word = wordAmong(sort == SESSIONS ? SESSION_HEADS : LOG_HEADS);
            if (word == NONE) {
                return NONE;
            }
            return word + (sort == SESSIONS ? FIRST_SESSION_HEAD : FIRST_LOG_HEAD);
        }

        private boolean isFull(int head) {
            if (head < SITS_HEAD) {
                return chamber.pieces >= PIECES;
            }
            if (head <= STANDS_HEAD) {
                return chamber.people >= PEOPLE;
            }
            if (head < FIRST_SESSION_HEAD) {
                return false;
            }
            return head < FIRST_LOG_HEAD ? session.size >= DEEDS : log.size >= FACTS;
        }

        private void addLine(int head, int wood) {
            if (head < SITS_HEAD) {
                chamber.addPiece(head, wood, numbers);
            } else if (head == SITS_HEAD) {
                chamber.addPerson(numbers[0], numbers[1]);
            } else if (head == STANDS_HEAD) {
                chamber.addPerson(numbers[0], STANDS);
            } else if (head < FIRST_SESSION_HEAD) {
                chamber.damp = numbers[0];
            } else if (head < FIRST_LOG_HEAD) {
                session.add(head - FIRST_SESSION_HEAD, numbers[0], numbers[1]);
            } else {
                log.add(head - FIRST_LOG_HEAD, numbers[0], numbers[1], numbers[2]);
            }
        }

        /** Tokens come by place, so the first that is noted is the first by place. */
        private void note(int number, int place) {
            if (fault == 0) {
                fault = number;
                faultPlace = place;
            }
        }

        private void refuse() {
            fault = 1;
            faultPlace = start;
        }

        private void advance() {
            while (next < length && isBlank(tape[next])) {
                next++;
            }
            start = next;
            if (start >= length) {
                token = END;
                return;
            }
            byte sign = tape[start];
            next++;
            if (sign == ';') {
                token = MARK;
            } else if (isLetter(sign)) {
                token = WORD;
                while (next < length && isLetter(tape[next])) {
                    next++;
                }
            } else if (isDigit(sign)) {
                takeDigits(sign - '0');
            } else {
                token = WRONG;
            }
        }

        private void takeDigits(int firstDigit) {
            value = firstDigit;
            while (next < length && isDigit(tape[next])) {
                if (next == start + 1) {
                    value = 10 * firstDigit + tape[next] - '0';
                }
                next++;
            }
            token = next - start > 2 ? WRONG : NUMBER;
        }

        private static boolean isBlank(byte sign) {
            return sign == 10 || sign == 32;
        }

        private static boolean isLetter(byte sign) {
            return sign >= 'a' && sign <= 'z';
        }

        private static boolean isDigit(byte sign) {
            return sign >= '0' && sign <= '9';
        }

        /** The number of the token among words, each with a blank behind it. */
        private int wordAmong(String words) {
            if (token != WORD) {
                return NONE;
            }
            int number = 0;
            int from = 0;
            for (int i = 0; i < words.length(); i++) {
                if (words.charAt(i) == ' ') {
                    if (i - from == next - start && isSame(words, from)) {
                        return number;
                    }
                    number++;
                    from = i + 1;
                }
            }
            return NONE;
        }

        private boolean isSame(String words, int from) {
            for (int i = 0; start + i < next; i++) {
                if (words.charAt(from + i) != tape[start + i]) {
                    return false;
                }
            }
            return true;
        }
    }

    /** A chamber as it is at a time: it changes its own copy of what is told. */
    private static final class Hall {
        final Chamber room = new Chamber();
        final int[] wax = new int[PIECES];
        final int[] load = new int[PIECES];
        final int[] said = new int[PIECES];
        int overs;
        int ayes;
        int noes;

        void enter(Chamber asTold) {
            room.copyFrom(asTold);
            Arrays.fill(wax, 0);
            Arrays.fill(load, 0);
            overs = 0;
            ayes = 0;
            noes = 0;
            for (int w = 0; w < room.people; w++) {
                putLoad(room.seat[w], room.weight[w]);
            }
        }

        private void putLoad(int seat, int weight) {
            if (room.hasPiece(seat)) {
                load[seat] += weight;
            }
        }

        void seatPerson(int w, int seat) {
            if (!room.hasPerson(w)) {
                return;
            }
            putLoad(room.seat[w], -room.weight[w]);
            putLoad(seat, room.weight[w]);
            room.seat[w] = seat;
        }

        /** The seat that is the i-th to be tried: pieces by numbers, then standing. */
        int seatTried(int i) {
            return i < room.pieces ? i : STANDS;
        }

        boolean isOver(int p) {
            return (overs >> p & 1) != 0;
        }

        int loud(int p, int motion) {
            if (!room.hasPiece(p)) {
                return 0;
            }
            int heard = Integer.bitCount(motion & room.ear[p]);
            int loud = load[p] + room.age[p] + room.damp * room.wood[p] + 3 * heard - 4 * wax[p];
            return Math.max(0, loud);
        }

        boolean sounds(int p, int motion) {
            return room.hasPiece(p) && loud(p, motion) >= room.limit[p];
        }

        /** All answer: by how many voices the ayes lead. */
        int vote(int motion) {
            ayes = 0;
            noes = 0;
            for (int p = 0; p < room.pieces; p++) {
                int word = isOver(p) ? 0 : says(p, motion);
                said[p] = word;
                if (word == AYE) {
                    ayes += room.voices[p];
                } else if (word == NO) {
                    noes += room.voices[p];
                }
            }
            return ayes - noes;
        }

        /** What a piece says, those ahead of it having answered. */
        private int says(int p, int motion) {
            if (room.kind[p] == TABLE) {
                if (ayes > noes) {
                    return NO;
                }
                return ayes < noes ? AYE : 0;
            }
            if (room.kind[p] == CHAIR && load[p] == 0) {
                return 0;
            }
            if (loud(p, motion) >= room.limit[p]) {
                return room.kind[p] == STOOL ? NO : AYE;
            }
            return room.kind[p] == CHAIR ? NO : 0;
        }

        void goOver(int p) {
            overs |= 1 << p;
            for (int w = 0; w < room.people; w++) {
                if (room.seat[w] == p) {
                    seatPerson(w, STANDS);
                }
            }
        }

        void passNight() {
            for (int p = 0; p < room.pieces; p++) {
                int older = room.wood[p] == PINE ? 2 : 1;
                room.age[p] = Math.min(MOST_AGE, room.age[p] + older);
                wax[p] = Math.max(0, wax[p] - 1);
            }
        }
    }

    /** A session as it goes on in a hall, deed by deed. */
    private static final class Course {
        private final Hall hall = new Hall();
        private int motions;
        private int passed;
        private int streak;
        int longest;
        int falls;
        private int seed;
        private final int[] nays = new int[PIECES];

        private void begin(Chamber room) {
            hall.enter(room);
            motions = 0;
            passed = 0;
            streak = 0;
            longest = 0;
            falls = NONE;
            Arrays.fill(nays, 0);
        }

        /** Does the first deeds, up to one that can't be: how many were done. */
        int follow(Chamber room, Session deeds, int most) {
            begin(room);
            for (int k = 0; k < most && k < deeds.size; k++) {
                if (!does(deeds.sort[k], deeds.first[k], deeds.second[k])) {
                    return k;
                }
                if (falls == NONE && hall.overs != 0) {
                    falls = k + 1;
                }
            }
            return Math.min(most, deeds.size);
        }

        /** Does a deed, if it may: whether it did. */
        private boolean does(int sort, int first, int second) {
            switch (sort) {
                case MOTION:
                    putMotion(first);
                    return true;
                case STAND:
                    return standsUp(first);
                case WAX:
                    return takesWax(first);
                case SET:
                    return isSetUp(first);
                case SIT:
                    return sitsDown(first, second);
                case WET:
                    return changesDamp(1);
                case DRY:
                    return changesDamp(-1);
                case NIGHT:
                    hall.passNight();
                    return true;
                default:
                    return false;
            }
        }

        private void putMotion(int motion) {
            motions++;
            if (hall.vote(motion) > 0) {
                passed++;
                streak++;
                longest = Math.max(longest, streak);
            } else {
                streak = 0;
            }
            for (int p = 0; p < hall.room.pieces; p++) {
                if (hall.said[p] == NO) {
                    nays[p]++;
                    if (hall.room.kind[p] == STOOL) {
                        hall.goOver(p);
                    }
                }
            }
        }

        private boolean standsUp(int w) {
            if (!hall.room.hasPerson(w) || hall.room.seat[w] == STANDS) {
                return false;
            }
            hall.seatPerson(w, STANDS);
            return true;
        }

        private boolean sitsDown(int w, int p) {
            if (!hall.room.hasPerson(w) || !hall.room.hasPiece(p)) {
                return false;
            }
            if (hall.isOver(p) || hall.room.seat[w] == p) {
                return false;
            }
            hall.seatPerson(w, p);
            return true;
        }

        private boolean takesWax(int p) {
            if (!hall.room.hasPiece(p) || hall.wax[p] >= MOST_WAX) {
                return false;
            }
            hall.wax[p]++;
            return true;
        }

        private boolean isSetUp(int p) {
            if (!hall.room.hasPiece(p) || !hall.isOver(p)) {
                return false;
            }
            hall.overs &= ~(1 << p);
            return true;
        }

        private boolean changesDamp(int by) {
            int damp = hall.room.damp + by;
            if (damp < 0 || damp > MOST_DAMP) {
                return false;
            }
            hall.room.damp = damp;
            return true;
        }

        int putThree(Chamber room, int first, int second, int third) {
            begin(room);
            putMotion(first);
            putMotion(second);
            putMotion(third);
            return passed;
        }

        void draw(Chamber room, int x, int times) {
            begin(room);
            seed = x;
            for (int i = 0; i < times; i++) {
                drawDeed();
            }
        }

        private void drawDeed() {
            int people = hall.room.people;
            int pieces = hall.room.pieces;
            switch (drawBelow(8)) {
                case 0:
                case 1:
                    putMotion(drawBelow(MOTIONS));
                    break;
                case 2:
                    drawSitting(people, pieces);
                    break;
                case 3:
                    standsUp(drawBelow(people));
                    break;
                case 4:
                    takesWax(drawBelow(pieces));
                    break;
                case 5:
                    isSetUp(drawBelow(pieces));
                    break;
                case 6:
                    changesDamp(drawBelow(2) == 0 ? 1 : -1);
                    break;
                default:
                    hall.passNight();
                    break;
            }
        }

        private void drawSitting(int people, int pieces) {
            int person = drawBelow(people);
            if (person != NONE) {
                sitsDown(person, drawBelow(pieces));
            }
        }

        /** A number below n; NONE, and nothing is drawn, if there are none to draw from. */
        private int drawBelow(int n) {
            if (n <= 0) {
                return NONE;
            }
            seed = seed * 1103515245 + 12345;
            return (seed >>> 16) % n;
        }

        int mostNays() {
            int most = NONE;
            for (int p = 0; p < hall.room.pieces; p++) {
                if (nays[p] > (most == NONE ? 0 : nays[most])) {
                    most = p;
                }
            }
            return most;
        }

        int tell(int what) {
            switch (what) {
                case 0:
                    return motions;
                case 1:
                    return passed;
                case 2:
                    return hall.room.damp;
                case 3:
                    return hall.overs;
                case 4:
                    return hall.ayes;
                case 5:
                    return hall.noes;
                default:
                    return what >= 10 && what < 50 ? tellOne(what / 10, what % 10) : NO_SUCH;
            }
        }

        private int tellOne(int tens, int i) {
            if (tens == 4) {
                return hall.room.hasPerson(i) ? hall.room.seat[i] : NO_SUCH;
            }
            if (!hall.room.hasPiece(i)) {
                return NO_SUCH;
            }
            if (tens == 1) {
                return hall.room.age[i];
            }
            return tens == 2 ? hall.wax[i] : hall.load[i];
        }
    }

    /** By which motions, damps and nights there is which verdict. Sets of motions are the bits of a long. */
    private static final class Verdicts {
        private static final int MOST_DAYS = 9;
        private static final int MOST_NIGHTS = 40;

        private final Hall hall = new Hall();
        private long[] chances = new long[MOST_DAMP + 1];
        private long[] chancesNext = new long[MOST_DAMP + 1];

        long carriedSet(Chamber room) {
            hall.enter(room);
            long set = 0;
            for (int motion = 0; motion < MOTIONS; motion++) {
                if (hall.vote(motion) > 0) {
                    set |= 1L << motion;
                }
            }
            return set;
        }

        long clearSet(Chamber room) {
            hall.enter(room);
            long set = 0;
            for (int motion = 0; motion < MOTIONS; motion++) {
                hall.vote(motion);
                if (hall.ayes > 0 && hall.noes == 0) {
                    set |= 1L << motion;
                }
            }
            return set;
        }

        int agreements(Chamber room, int a, int b) {
            if (!room.hasPiece(a) || !room.hasPiece(b)) {
                return NONE;
            }
            hall.enter(room);
            int number = 0;
            for (int motion = 0; motion < MOTIONS; motion++) {
                hall.vote(motion);
                if (hall.said[a] != 0 && hall.said[a] == hall.said[b]) {
                    number++;
                }
            }
            return number;
        }

        private static boolean isIn(long set, int motion) {
            return (set >>> motion & 1) != 0;
        }

        /** How many a set has (k NONE), or its k-th. */
        static int member(long set, int k) {
            if (k == NONE) {
                return Long.bitCount(set);
            }
            int left = k;
            for (int motion = 0; motion < MOTIONS && left >= 0; motion++) {
                if (isIn(set, motion)) {
                    if (left == 0) {
                        return motion;
                    }
                    left--;
                }
            }
            return NONE;
        }

        static int nearestOf(long set, int asked) {
            int best = NONE;
            int fewest = MATTERS + 1;
            for (int motion = 0; motion < MOTIONS; motion++) {
                int others = Integer.bitCount(motion ^ asked);
                if (others < fewest && isIn(set, motion)) {
                    fewest = others;
                    best = motion;
                }
            }
            return best;
        }

        static int fewestWith(long set, int matters) {
            int best = NONE;
            int fewest = MATTERS + 1;
            for (int motion = 0; motion < MOTIONS; motion++) {
                int number = Integer.bitCount(motion);
                if ((motion & matters) == matters && number < fewest && isIn(set, motion)) {
                    fewest = number;
                    best = motion;
                }
            }
            return best;
        }

        static int stepsWithin(long set, int from, int to) {
            long reached = 1L << from & set;
            for (int steps = 0; steps < MOTIONS; steps++) {
                if (isIn(reached, to)) {
                    return steps;
                }
                reached = oneStepFurther(reached, set);
            }
            return NONE;
        }

        private static long oneStepFurther(long reached, long set) {
            long further = reached;
            for (int motion = 0; motion < MOTIONS; motion++) {
                for (int matter = 0; matter < MATTERS && isIn(reached, motion); matter++) {
                    further |= 1L << (motion ^ 1 << matter);
                }
            }
            return further & set;
        }

        /** Of a million, p of ten for each matter by itself. */
        static long chancesOf(long set, int p) {
            long sum = 0;
            for (int motion = 0; motion < MOTIONS; motion++) {
                if (isIn(set, motion)) {
                    long chance = 1;
                    for (int matter = 0; matter < MATTERS; matter++) {
                        chance *= (motion >> matter & 1) != 0 ? p : TEN - p;
                    }
                    sum += chance;
                }
            }
            return sum;
        }

        int carryingDamps(Chamber room, int motion) {
            hall.enter(room);
            int bits = 0;
            for (int damp = 0; damp <= MOST_DAMP; damp++) {
                hall.room.damp = damp;
                if (hall.vote(motion) > 0) {
                    bits |= 1 << damp;
                }
            }
            return bits;
        }

        /** Of ten to the power of the days. */
        long chancesBehind(Chamber room, int motion, int days, int p) {
            int carrying = carryingDamps(room, motion);
            Arrays.fill(chances, 0);
            if (room.damp >= 0 && room.damp <= MOST_DAMP) {
                chances[room.damp] = 1;
            }
            for (int day = 0; day < days; day++) {
                passDay(p);
            }
            long sum = 0;
            for (int damp = 0; damp <= MOST_DAMP; damp++) {
                if ((carrying >> damp & 1) != 0) {
                    sum += chances[damp];
                }
            }
            return sum;
        }

        private void passDay(int p) {
            Arrays.fill(chancesNext, 0);
            for (int damp = 0; damp <= MOST_DAMP; damp++) {
                chancesNext[Math.min(MOST_DAMP, damp + 1)] += chances[damp] * p;
                chancesNext[Math.max(0, damp - 1)] += chances[damp] * (TEN - p);
            }
            long[] before = chances;
            chances = chancesNext;
            chancesNext = before;
        }

        int nightsToTurn(Chamber room, int motion) {
            hall.enter(room);
            boolean now = hall.vote(motion) > 0;
            for (int nights = 1; nights <= MOST_NIGHTS; nights++) {
                hall.passNight();
                if (hall.vote(motion) > 0 != now) {
                    return nights;
                }
            }
            return NONE;
        }
    }

    /** What comes of it if people sit otherwise. */
    private static final class Seating {
        final int[] row = new int[PEOPLE];
        private final Hall hall = new Hall();
        private int rowNumber;

        /** How many have to sit elsewhere; row is then where all sit. */
        int fewestMoves(Chamber room, int motion) {
            hall.enter(room);
            rowNumber = NONE;
            if (hall.vote(motion) > 0) {
                keepLeastRow();
                return 0;
            }
            for (int w = 0; w < room.people; w++) {
                tryMoving(w, motion);
            }
            if (rowNumber != NONE) {
                return 1;
            }
            for (int w = 0; w < room.people; w++) {
                tryMovingTwo(w, motion);
            }
            return rowNumber == NONE ? NONE : 2;
        }

        private void tryMoving(int w, int motion) {
            int was = hall.room.seat[w];
            for (int i = 0; i <= hall.room.pieces; i++) {
                int seat = hall.seatTried(i);
                if (seat != was) {
                    hall.seatPerson(w, seat);
                    if (hall.vote(motion) > 0) {
                        keepLeastRow();
                    }
                }
            }
            hall.seatPerson(w, was);
        }

        private void tryMovingTwo(int v, int motion) {
            int was = hall.room.seat[v];
            for (int i = 0; i <= hall.room.pieces; i++) {
                int seat = hall.seatTried(i);
                if (seat != was) {
                    hall.seatPerson(v, seat);
                    for (int w = v + 1; w < hall.room.people; w++) {
                        tryMoving(w, motion);
                    }
                }
            }
            hall.seatPerson(v, was);
        }

        /** Seats are digits from 0 to 8, so the first row is that of the least number by nines. */
        private void keepLeastRow() {
            int number = 0;
            for (int w = 0; w < hall.room.people; w++) {
                number = 9 * number + hall.room.seat[w];
            }
            if (rowNumber == NONE || number < rowNumber) {
                rowNumber = number;
                System.arraycopy(hall.room.seat, 0, row, 0, PEOPLE);
            }
        }

        int seatGreedily(Chamber room, int motion) {
            hall.enter(room);
            for (int w = 0; w < room.people; w++) {
                hall.seatPerson(w, STANDS);
            }
            for (int w = 0; w < room.people; w++) {
                seatBest(w, motion);
            }
            return hall.vote(motion);
        }

        int seatOneBest(Chamber room, int motion, int w) {
            hall.enter(room);
            return seatBest(w, motion);
        }

        /** Where one sits in the end. */
        int seatOf(int w) {
            return hall.room.hasPerson(w) ? hall.room.seat[w] : STANDS;
        }

        /** Seats one where the lead is most then: that lead. */
        private int seatBest(int w, int motion) {
            int most = NO_LEAD;
            int best = STANDS;
            for (int i = 0; i <= hall.room.pieces; i++) {
                hall.seatPerson(w, hall.seatTried(i));
                int lead = hall.vote(motion);
                if (lead > most) {
                    most = lead;
                    best = hall.seatTried(i);
                }
            }
            hall.seatPerson(w, best);
            return most;
        }

        int whoTurnsByStanding(Chamber room, int motion) {
            hall.enter(room);
            boolean now = hall.vote(motion) > 0;
            int bits = 0;
            for (int w = 0; w < room.people; w++) {
                hall.seatPerson(w, STANDS);
                if (hall.vote(motion) > 0 != now) {
                    bits |= 1 << w;
                }
                hall.seatPerson(w, room.seat[w]);
            }
            return bits;
        }

        int firstTrade(Chamber room, int motion) {
            hall.enter(room);
            boolean now = hall.vote(motion) > 0;
            for (int v = 0; v < room.people; v++) {
                for (int w = v + 1; w < room.people; w++) {
                    hall.seatPerson(v, room.seat[w]);
                    hall.seatPerson(w, room.seat[v]);
                    if (hall.vote(motion) > 0 != now) {
                        return 10 * v + w;
                    }
                    hall.seatPerson(v, room.seat[v]);
                    hall.seatPerson(w, room.seat[w]);
                }
            }
            return NONE;
        }
    }

    /** What comes of it if pieces are waxed, aged, damp, of oak or silent. */
    private static final class Joinery {
        private static final int MOST_WAXES = 3;
        private static final int MOST_LOBBY = 4;
        private static final int MOST_NIGHTS = 60;

        final int[] row = new int[MOST_WAXES];
        private final Hall hall = new Hall();

        /** How many waxes it takes; row is then on which pieces. */
        int fewestWaxes(Chamber room, int motion, boolean wanted) {
            hall.enter(room);
            for (int waxes = 0; waxes <= MOST_WAXES; waxes++) {
                if (waxFurther(motion, wanted, 0, 0, waxes)) {
                    return waxes;
                }
            }
            return NONE;
        }

        private boolean waxFurther(int motion, boolean wanted, int from, int done, int all) {
            if (done >= all || done < 0 || done >= row.length) {
                return hall.vote(motion) > 0 == wanted;
            }
            for (int p = Math.max(0, from); p < hall.room.pieces; p++) {
                if (hall.wax[p] < MOST_WAX) {
                    row[done] = p;
                    hall.wax[p]++;
                    boolean found = waxFurther(motion, wanted, p, done + 1, all);
                    hall.wax[p]--;
                    if (found) {
                        return true;
                    }
                }
            }
            return false;
        }

        boolean lobbied(Chamber room, int motion, int n) {
            hall.enter(room);
            return endsCarried(motion, n, true);
        }

        /** Whether it is carried in the end, if the one whose turn it is wants it so or not. */
        private boolean endsCarried(int motion, int left, boolean wants) {
            if (left <= 0) {
                return hall.vote(motion) > 0;
            }
            if (endsCarried(motion, left - 1, !wants) == wants) {
                return wants;
            }
            for (int p = 0; p < hall.room.pieces; p++) {
                // Wax on a piece that is still does no more than none does.
                if (hall.sounds(p, motion) && endsCarriedBy(p, motion, left, wants) == wants) {
                    return wants;
                }
            }
            return !wants;
        }

        private boolean endsCarriedBy(int p, int motion, int left, boolean wants) {
            if (!hall.room.hasPiece(p) || hall.wax[p] >= MOST_WAX) {
                return !wants;
            }
            hall.wax[p]++;
            boolean ends = endsCarried(motion, left - 1, !wants);
            hall.wax[p]--;
            return ends;
        }

        /** The least piece that the first one waxes, or that he waxes none, so that it is carried. */
        int firstChoice(Chamber room, int motion, int n) {
            hall.enter(room);
            for (int p = 0; p < room.pieces; p++) {
                if (endsCarriedBy(p, motion, n, true)) {
                    return p;
                }
            }
            return endsCarried(motion, n - 1, false) ? STANDS : NONE;
        }

        int waxesToHush(Chamber room, int motion, int p) {
            if (!room.hasPiece(p)) {
                return NONE;
            }
            hall.enter(room);
            for (int waxes = 0; waxes <= MOST_WAX; waxes++) {
                hall.wax[p] = waxes;
                if (!hall.sounds(p, motion)) {
                    return waxes;
                }
            }
            return NONE;
        }

        int nightsToWake(Chamber room, int motion, int p) {
            hall.enter(room);
            for (int nights = 0; nights <= MOST_NIGHTS; nights++) {
                if (hall.sounds(p, motion)) {
                    return nights;
                }
                hall.passNight();
            }
            return NONE;
        }

        int dampToTip(Chamber room, int motion, int p) {
            if (!room.hasPiece(p) || room.kind[p] != STOOL) {
                return NONE;
            }
            hall.enter(room);
            for (int damp = 0; damp <= MOST_DAMP; damp++) {
                hall.room.damp = damp;
                if (hall.sounds(p, motion)) {
                    return damp;
                }
            }
            return NONE;
        }

        int fewestOaken(Chamber room, int motion) {
            hall.enter(room);
            boolean now = hall.vote(motion) > 0;
            int best = NONE;
            int fewest = PIECES + 1;
            for (int set = 1; set < 1 << room.pieces; set++) {
                int number = Integer.bitCount(set);
                if (number < fewest) {
                    makeOaken(room, set);
                    if (hall.vote(motion) > 0 != now) {
                        best = set;
                        fewest = number;
                    }
                }
            }
            return best;
        }

        private void makeOaken(Chamber room, int set) {
            for (int p = 0; p < room.pieces; p++) {
                hall.room.wood[p] = (set >> p & 1) != 0 ? 0 : room.wood[p];
            }
        }

        int hinges(Chamber room, int motion) {
            hall.enter(room);
            boolean now = hall.vote(motion) > 0;
            int bits = 0;
            for (int p = 0; p < room.pieces; p++) {
                hall.overs = 1 << p;
                if (hall.vote(motion) > 0 != now) {
                    bits |= 1 << p;
                }
            }
            return bits;
        }

        int loudestPiece(Chamber room, int motion) {
            hall.enter(room);
            int loudest = NONE;
            int most = NONE;
            for (int p = 0; p < room.pieces; p++) {
                int loud = hall.loud(p, motion);
                if (loud > most) {
                    most = loud;
                    loudest = p;
                }
            }
            return loudest;
        }
    }

    /** All pieces vote by voices alone. Sets of pieces are bits. */
    private static final class Powers {
        private static final int[] FACTORIALS = {1, 1, 2, 6, 24, 120, 720, 5040, 40320};

        final int[] swings = new int[PIECES];
        private final int[] voices = new int[PIECES];
        private final int[] sums = new int[1 << PIECES];
        private int pieces;
        private int sets;
        private int total;

        void hear(Chamber room) {
            pieces = room.pieces;
            sets = 1 << pieces;
            for (int p = 0; p < pieces; p++) {
                voices[p] = room.voices[p];
                int bit = 1 << p;
                for (int set = 0; set < bit; set++) {
                    sums[bit + set] = sums[set] + voices[p];
                }
            }
            total = sums[sets - 1];
            for (int p = 0; p < pieces; p++) {
                swings[p] = countSwings(p);
            }
        }

        private boolean wins(int set) {
            return set >= 0 && set < sums.length && 2 * sums[set] > total;
        }

        /** Whether these others win with the piece and not without it. */
        private boolean isSwing(int others, int p) {
            int bit = 1 << p;
            return (others & bit) == 0 && !wins(others) && wins(others | bit);
        }

        private int countSwings(int p) {
            int number = 0;
            for (int others = 0; others < sets; others++) {
                if (isSwing(others, p)) {
                    number++;
                }
            }
            return number;
        }

        /** Each set of those that came ahead stands for all orders of them and of those behind. */
        int part(int p, boolean under) {
            if (pieces < 1 || pieces >= FACTORIALS.length) {
                return NONE;
            }
            int orders = 0;
            for (int others = 0; others < sets; others++) {
                int ahead = Integer.bitCount(others);
                if (ahead < pieces && isSwing(others, p)) {
                    orders += FACTORIALS[ahead] * FACTORIALS[pieces - 1 - ahead];
                }
            }
            return (int) leastTerms(orders, FACTORIALS[pieces], under);
        }

        int leastSet() {
            int best = 0;
            int fewest = PIECES + 1;
            for (int set = 0; set < sets; set++) {
                int number = Integer.bitCount(set);
                if (number < fewest && wins(set)) {
                    best = set;
                    fewest = number;
                }
            }
            return best;
        }

        int difference(int set) {
            return set >= 0 && set < sums.length ? Math.abs(total - 2 * sums[set]) : NONE;
        }

        int evenestSet() {
            int best = 0;
            for (int set = 1; set < sets; set++) {
                if (difference(set) < difference(best)) {
                    best = set;
                }
            }
            return best;
        }

        int vetoes() {
            int bits = 0;
            for (int p = 0; p < pieces; p++) {
                if (!wins(sets - 1 - (1 << p))) {
                    bits |= 1 << p;
                }
            }
            return bits;
        }

        int idle() {
            int bits = 0;
            for (int p = 0; p < pieces; p++) {
                if (swings[p] == 0) {
                    bits |= 1 << p;
                }
            }
            return bits;
        }

        int alike() {
            int number = 0;
            for (int p = 0; p < pieces; p++) {
                for (int q = p + 1; q < pieces; q++) {
                    if (swings[p] == swings[q] && voices[p] != voices[q]) {
                        number++;
                    }
                }
            }
            return number;
        }
    }
}
