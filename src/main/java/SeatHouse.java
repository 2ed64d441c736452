import java.util.Arrays;

/** Votes of parties in wards made into seats: houses, and plans of wards and parties at once. */
public final class SeatHouse {
    public static final int NONE = -1, BAD = -2, STATE = -3, FULL = -4, OVER = -6;
    public static final long NO = Long.MIN_VALUE;

    private static final int NOT_FOUND = -5, NOTHING = -11, BEYOND = -13, BELOW = -14;
    private static final int FAULTS_FROM = -100;

    private static final int WARDS = 4, PARTIES = 6, CELLS = 24;
    private static final int MOST_VOTES = 100000, MOST_SEATS = 30, MOST_LEAST = 9, MOST_BAR = 500;
    private static final int MOST_TOLD = 99, MOST_HOUSE = 60, MOST_MORE = 300;
    private static final int MOST_BYTES = 120, ROWS = 4, MOST_PLACES = 40;
    private static final int LONGEST_RING = 4, MOST_RINGS = 200;
    private static final int DOWN = 0, HALF = 1, UP = 2, ROOT = 3, HARMONIC = 4, TOLD = 5, RESTS = 6;
    private static final int WAYS = 7;
    private static final int COMMA = 44, SLASH = 47, FIGURE_0 = 48, FIGURE_9 = 57, MOST_FIGURES = 6;

    private final Poll poll = new Poll();
    private final Poll imagePoll = new Poll();
    private final Poll wouldBe = new Poll();
    private final House nowHouse = new House();
    private final House otherHouse = new House();
    private final Plan plan = new Plan();
    private final Tape tape = new Tape();
    private final Sheet sheet = new Sheet();
    private final Shelf shelf = new Shelf();
    private final int[] judged = new int[CELLS];
    private boolean imageTaken;

    public SeatHouse() {
        imageTaken = false;
    }

    // ---- what is told

    public int vote(int ward, int party, int v) {
        if (!within(ward, WARDS - 1) || !within(party, PARTIES - 1)) {
            return NONE;
        }
        if (!within(v, MOST_VOTES)) {
            return BAD;
        }
        int was = poll.cast[cellOf(ward, party)];
        poll.cast[cellOf(ward, party)] = v;
        plan.forget();
        return was;
    }

    public int votes(int ward, int party) {
        if (ward < -1 || ward >= WARDS || party < -1 || party >= PARTIES) {
            return NONE;
        }
        if (ward == -1) {
            return party == -1 ? poll.sumOfAll() : poll.totalOf(party);
        }
        return party == -1 ? poll.sumOfWard(ward) : poll.cast[cellOf(ward, party)];
    }

    public int seats(int ward, int n) {
        if (!within(ward, WARDS - 1)) {
            return NONE;
        }
        if (!within(n, MOST_SEATS)) {
            return BAD;
        }
        int was = poll.wardSeats[ward];
        poll.wardSeats[ward] = n;
        plan.forget();
        return was;
    }

    public int least(int party, int n) {
        if (!within(party, PARTIES - 1)) {
            return NONE;
        }
        if (!within(n, MOST_LEAST)) {
            return BAD;
        }
        int was = poll.leasts[party];
        poll.leasts[party] = n;
        plan.forget();
        return was;
    }

    public int join(int party, int list) {
        if (!within(party, PARTIES - 1) || !within(list, PARTIES - 1)) {
            return NONE;
        }
        int was = poll.listOf[party];
        poll.listOf[party] = list;
        plan.forget();
        return was;
    }

    public int bar(int n) {
        if (!within(n, MOST_BAR)) {
            return BAD;
        }
        int was = poll.theBar;
        poll.theBar = n;
        plan.forget();
        return was;
    }

    public int way(int way) {
        if (!within(way, WAYS - 1)) {
            return NONE;
        }
        int was = poll.theWay;
        poll.theWay = way;
        plan.forget();
        return was;
    }

    public int tell(int a, int b) {
        if (!within(a, MOST_TOLD) || b < 1 || b > MOST_TOLD || a > b) {
            return BAD;
        }
        poll.toldAbove = a;
        poll.toldBelow = b;
        plan.forget();
        return 1;
    }

    public int feed(int letter) {
        if (letter < 1 || letter > 127) {
            return BAD;
        }
        return tape.takeByte(letter) ? tape.used : FULL;
    }

    public int clear() {
        int was = tape.used;
        tape.used = 0;
        return was;
    }

    public int read(int ward) {
        if (!within(ward, WARDS - 1)) {
            return NONE;
        }
        int numbers = tape.parse(ward, wouldBe, poll);
        tape.used = 0;
        if (numbers > 0) {
            poll.copyFrom(wouldBe);
            plan.forget();
        }
        return numbers;
    }

    // ---- houses

    public int in() {
        return poll.inBits();
    }

    public int house(int h, int party) {
        if (!within(party, PARTIES - 1)) {
            return NONE;
        }
        int fault = fillNow(h);
        return fault != 0 ? fault : nowHouse.partySeats[party];
    }

    public int list(int h, int list) {
        if (!within(list, PARTIES - 1)) {
            return NONE;
        }
        int fault = fillNow(h);
        return fault != 0 ? fault : nowHouse.lists.got[list];
    }

    public int given(int h, int i) {
        int fault = fillByPrices(h);
        if (fault != 0) {
            return fault;
        }
        if (i < 0 || i >= nowHouse.lists.wentCount) {
            return NONE;
        }
        return nowHouse.lists.went[i];
    }

    public int tie(int h) {
        int fault = fillByPrices(h);
        return fault != 0 ? fault : nowHouse.lists.asGood;
    }

    public int differ(int h, int one, int other) {
        if (!within(one, WAYS - 1) || !within(other, WAYS - 1)) {
            return NONE;
        }
        if (!within(h, MOST_HOUSE)) {
            return BAD;
        }
        if (!nowHouse.fill(poll, one, h) || !otherHouse.fill(poll, other, h)) {
            return STATE;
        }
        return nowHouse.awayFrom(otherHouse) / 2;
    }

    public int loses(int a, int b) {
        if (!within(a, MOST_HOUSE) || !within(b, MOST_HOUSE) || b < a) {
            return BAD;
        }
        House before = nowHouse;
        House behind = otherHouse;
        boolean couldBe = before.fill(poll, poll.theWay, a);
        for (int h = a + 1; h <= b; h++) {
            boolean canBe = behind.fill(poll, poll.theWay, h);
            if (couldBe && canBe && behind.leastBelow(before) >= 0) {
                return h;
            }
            House swapped = before;
            before = behind;
            behind = swapped;
            couldBe = canBe;
        }
        return NOT_FOUND;
    }

    public int loser(int h) {
        if (h < 1 || h > MOST_HOUSE) {
            return BAD;
        }
        if (!otherHouse.fill(poll, poll.theWay, h - 1) || !nowHouse.fill(poll, poll.theWay, h)) {
            return NOT_FOUND;
        }
        int party = nowHouse.leastBelow(otherHouse);
        return party >= 0 ? party : NOT_FOUND;
    }

    public long price(int party, int n, int part) {
        if (!within(party, PARTIES - 1) || n < 1 || n > MOST_HOUSE || !within(part, 1)) {
            return NO;
        }
        if (poll.theWay == RESTS) {
            return NO;
        }
        long above = poll.priceAbove(poll.theWay, poll.totalOf(party), n);
        return lowest(above, poll.markAbove(poll.theWay, n), part);
    }

    public long span(int h, int side, int part) {
        if (!within(side, 1) || !within(part, 1) || poll.theWay == ROOT) {
            return NO;
        }
        if (fillByPrices(h) != 0) {
            return NO;
        }
        return nowHouse.lists.edge(poll, poll.theWay, side == 0, part);
    }

    public int quota(int h) {
        int fault = fillNow(h);
        return fault != 0 ? fault : nowHouse.outsideQuota(poll, h);
    }

    public int alike(int h) {
        int fault = fillNow(h);
        if (fault != 0) {
            return fault;
        }
        int bits = 0;
        for (int way = 0; way < WAYS; way++) {
            if (otherHouse.fill(poll, way, h) && otherHouse.awayFrom(nowHouse) == 0) {
                bits |= 1 << way;
            }
        }
        return bits;
    }

    public int would(int ward, int party, int v, int h) {
        if (!within(ward, WARDS - 1) || !within(party, PARTIES - 1)) {
            return NONE;
        }
        if (!within(v, MOST_VOTES) || !within(h, MOST_HOUSE)) {
            return BAD;
        }
        wouldBe.copyFrom(poll);
        wouldBe.cast[cellOf(ward, party)] = v;
        return otherHouse.fill(wouldBe, poll.theWay, h) ? otherHouse.partySeats[party] : STATE;
    }

    public int needs(int ward, int party, int h) {
        if (!within(ward, WARDS - 1) || !within(party, PARTIES - 1)) {
            return NONE;
        }
        int fault = fillNow(h);
        if (fault != 0) {
            return fault;
        }
        int now = nowHouse.partySeats[party];
        int cell = cellOf(ward, party);
        wouldBe.copyFrom(poll);
        for (int more = 1; more <= MOST_MORE && poll.cast[cell] + more <= MOST_VOTES; more++) {
            wouldBe.cast[cell] = poll.cast[cell] + more;
            if (otherHouse.fill(wouldBe, poll.theWay, h) && otherHouse.partySeats[party] > now) {
                return more;
            }
        }
        return NOT_FOUND;
    }

    public int spell(int h) {
        int fault = fillNow(h);
        if (fault != 0) {
            return fault;
        }
        sheet.used = 0;
        sheet.putSeats(nowHouse.partySeats, 0);
        return sheet.used;
    }

    public int paper(int i) {
        return i < 0 || i >= sheet.used ? NONE : sheet.bytes[i];
    }

    // ---- the plan

    public int solve() {
        return plan.settle(poll);
    }

    public int cell(int ward, int party) {
        if (!within(ward, WARDS - 1) || !within(party, PARTIES - 1)) {
            return NONE;
        }
        int done = plan.settle(poll);
        return done < 0 ? done : plan.seated[cellOf(ward, party)];
    }

    public long bound(int r, int s, int part) {
        if (!within(r, WARDS - 1) || !within(s, WARDS - 1) || r == s || !within(part, 1)) {
            return NO;
        }
        if (plan.settle(poll) < 0 || poll.wardSeats[r] == 0 || poll.wardSeats[s] == 0) {
            return NO;
        }
        return plan.boundBetween(poll, r, s, part);
    }

    public int judge(int row, int i, int what) {
        if (!within(row, ROWS - 1) || !within(what, 2 * LONGEST_RING)) {
            return NONE;
        }
        if (!shelf.copyOut(row, i, judged)) {
            return STATE;
        }
        if (plan.settle(poll) == STATE || !plan.takes(poll, judged)) {
            return STATE;
        }
        int verdict = plan.rings.firstBetter(poll, judged);
        if (verdict < 0) {
            return verdict;
        }
        return verdict == 0 ? NOT_FOUND : plan.rings.partOfRing(what);
    }

    public int moved() {
        int done = plan.settle(poll);
        return done < 0 ? done : plan.elsewhere(poll);
    }

    public int spellPlan() {
        int done = plan.settle(poll);
        if (done < 0) {
            return done;
        }
        sheet.used = 0;
        for (int ward = 0; ward < WARDS; ward++) {
            if (ward > 0) {
                sheet.putByte(SLASH);
            }
            sheet.putSeats(plan.seated, cellOf(ward, 0));
        }
        return sheet.used;
    }

    public int told(int what) {
        if (what >= 10 && what < 10 + WARDS) {
            return poll.wardSeats[what - 10];
        }
        if (what >= 20 && what < 20 + PARTIES) {
            return poll.leasts[what - 20];
        }
        if (what >= 30 && what < 30 + PARTIES) {
            return poll.listOf[what - 30];
        }
        switch (what) {
            case 0: return poll.sumOfAll();
            case 1: return poll.sumOfSeats();
            case 2: return poll.theWay;
            case 3: return poll.theBar;
            case 4: return poll.toldAbove;
            case 5: return poll.toldBelow;
            case 6: return tape.used;
            case 7: return sheet.used;
            case 8: return poll.listBits();
            case 9: return poll.wardBits();
            default: return NONE;
        }
    }

    // ---- rows, the image

    public int row(int row, int n) {
        if (!within(row, ROWS - 1)) {
            return NONE;
        }
        if (n > MOST_PLACES) {
            return BAD;
        }
        if (n < 0) {
            return BELOW;
        }
        shelf.makeRow(row, n);
        return 1;
    }

    public int set(int row, int i, int v) {
        if (!within(row, ROWS - 1)) {
            return NONE;
        }
        if (!shelf.isThere(row)) {
            return NOTHING;
        }
        return shelf.put(row, i, v) ? 1 : BEYOND;
    }

    public long get(int row, int i) {
        if (!within(row, ROWS - 1) || !shelf.hasPlace(row, i)) {
            return NO;
        }
        return shelf.places[row][i];
    }

    public int lay(int row, int i) {
        if (!within(row, ROWS - 1)) {
            return NONE;
        }
        if (!shelf.isThere(row)) {
            return NOTHING;
        }
        int done = plan.settle(poll);
        if (done < 0) {
            return done;
        }
        return shelf.copyIn(row, i, plan.seated) ? CELLS : BEYOND;
    }

    public int image() {
        imagePoll.copyFrom(poll);
        imageTaken = true;
        return poll.sumOfAll();
    }

    public int undo() {
        if (!imageTaken) {
            return STATE;
        }
        poll.copyFrom(imagePoll);
        plan.forget();
        return poll.sumOfAll();
    }

    // ---- shared by the calls

    /** Fills the house of h by the WAY: 0, BAD or STATE. */
    private int fillNow(int h) {
        if (!within(h, MOST_HOUSE)) {
            return BAD;
        }
        return nowHouse.fill(poll, poll.theWay, h) ? 0 : STATE;
    }

    /** As fillNow, but STATE by RESTS, which gives no seat by a PRICE. */
    private int fillByPrices(int h) {
        if (!within(h, MOST_HOUSE)) {
            return BAD;
        }
        return poll.theWay != RESTS && nowHouse.fill(poll, poll.theWay, h) ? 0 : STATE;
    }

    private static boolean within(int n, int most) {
        return n >= 0 && n <= most;
    }

    private static boolean holds(int bits, int place) {
        return (bits >> place & 1) != 0;
    }

    private static int cellOf(int ward, int party) {
        return ward * PARTIES + party;
    }

    /** One part of a fraction in lowest terms; NO, if nothing stands below the line. */
    private static long lowest(long above, long below, int part) {
        long shared = commonDivisor(above, below);
        if (below == 0 || shared == 0) {
            return NO;
        }
        return part == 0 ? above / shared : below / shared;
    }

    private static long commonDivisor(long one, long other) {
        long a = one;
        long b = other;
        // Euclid's steps for two longs are fewer than 100
        for (int step = 0; step < 100 && b != 0; step++) {
            long rest = a % b;
            a = b;
            b = rest;
        }
        return a;
    }

    /** A product of two that aren't below 0; -1, if it would be beyond a long or one is -1 already. */
    private static long product(long a, long b) {
        if (a < 0 || b < 0) {
            return -1;
        }
        // two ints need no division to be sure
        boolean large = ((a | b) >>> 31) != 0;
        if (large && b != 0 && a > Long.MAX_VALUE / b) {
            return -1;
        }
        return a * b;
    }

    /** Above 0: the first PRICE is dearer; below 0: the other. Nothing below the line is FREE. */
    private static int comparePrices(long above, long below, long otherAbove, long otherBelow) {
        if (below == 0 && otherBelow == 0) {
            return Long.compare(above, otherAbove);
        }
        if (below == 0) {
            return 1;
        }
        if (otherBelow == 0) {
            return -1;
        }
        return Long.compare(above * otherBelow, otherAbove * below);
    }

    /** What is told, as far as THE IMAGE keeps it. */
    private static final class Poll {
        final int[] cast = new int[CELLS];
        final int[] wardSeats = new int[WARDS];
        final int[] leasts = new int[PARTIES];
        final int[] listOf = new int[PARTIES];
        int theBar;
        int theWay;
        int toldAbove = 1;
        int toldBelow = 2;

        Poll() {
            for (int party = 0; party < PARTIES; party++) {
                listOf[party] = party;
            }
        }

        void copyFrom(Poll other) {
            System.arraycopy(other.cast, 0, cast, 0, CELLS);
            System.arraycopy(other.wardSeats, 0, wardSeats, 0, WARDS);
            System.arraycopy(other.leasts, 0, leasts, 0, PARTIES);
            System.arraycopy(other.listOf, 0, listOf, 0, PARTIES);
            theBar = other.theBar;
            theWay = other.theWay;
            toldAbove = other.toldAbove;
            toldBelow = other.toldBelow;
        }

        int totalOf(int party) {
            int sum = 0;
            for (int ward = 0; ward < WARDS; ward++) {
                sum += cast[cellOf(ward, party)];
            }
            return sum;
        }

        int sumOfWard(int ward) {
            int sum = 0;
            for (int party = 0; party < PARTIES; party++) {
                sum += cast[cellOf(ward, party)];
            }
            return sum;
        }

        int sumOfAll() {
            int sum = 0;
            for (int cell = 0; cell < CELLS; cell++) {
                sum += cast[cell];
            }
            return sum;
        }

        int sumOfSeats() {
            int sum = 0;
            for (int ward = 0; ward < WARDS; ward++) {
                sum += wardSeats[ward];
            }
            return sum;
        }

        int wardBits() {
            int bits = 0;
            for (int ward = 0; ward < WARDS; ward++) {
                if (wardSeats[ward] > 0) {
                    bits |= 1 << ward;
                }
            }
            return bits;
        }

        int inBits() {
            long needed = (long) theBar * sumOfAll();
            int bits = 0;
            for (int party = 0; party < PARTIES; party++) {
                long total = totalOf(party);
                if (total > 0 && 1000 * total >= needed) {
                    bits |= 1 << party;
                }
            }
            return bits;
        }

        int listBits() {
            int parties = inBits();
            int bits = 0;
            for (int party = 0; party < PARTIES; party++) {
                if (holds(parties, party)) {
                    bits |= 1 << listOf[party];
                }
            }
            return bits;
        }

        /** Above the line of the MARK of a seat; by ROOT of the MARK's square. */
        long markAbove(int way, int n) {
            switch (way) {
                case DOWN: return n;
                case HALF: return 2L * n - 1;
                case UP: return n - 1;
                case ROOT: return (long) n * (n - 1);
                case HARMONIC: return 2L * n * (n - 1);
                default: return (long) toldBelow * (n - 1) + toldAbove;
            }
        }

        /** Above the line of a PRICE (below it is the MARK's above); by ROOT of the PRICE's square. */
        long priceAbove(int way, long v, int n) {
            switch (way) {
                case HALF: return v * 2;
                case ROOT: return v * v;
                case HARMONIC: return v * (2L * n - 1);
                case TOLD: return v * toldBelow;
                default: return v;
            }
        }

        /** Below the line of every MARK of THE PLAN's WAYS: there it is the same for all seats. */
        long planMarkBelow() {
            return priceAbove(theWay, 1, 1);
        }
    }

    /** Seats GIVEN to some with VOTES and LEASTS; places are numbers of LISTS or of PARTIES. */
    private static final class Giver {
        final int[] got = new int[PARTIES];
        final int[] went = new int[MOST_HOUSE];
        int wentCount;
        int asGood;
        private int present;
        private final long[] weights = new long[PARTIES];
        private final int[] floors = new int[PARTIES];
        private final long[] nextAbove = new long[PARTIES];
        private final long[] nextBelow = new long[PARTIES];
        private final long[] rests = new long[PARTIES];
        private final int[] ranked = new int[PARTIES];

        void empty() {
            Arrays.fill(got, 0);
            Arrays.fill(weights, 0);
            Arrays.fill(floors, 0);
            wentCount = 0;
            asGood = 0;
            present = 0;
        }

        void enter(int place, int votes, int atLeast) {
            present |= 1 << place;
            weights[place] += votes;
            floors[place] += atLeast;
        }

        /** Gives h seats to those entered; false, if it can't be. */
        boolean give(Poll poll, int way, int h) {
            if (present == 0) {
                return h == 0;
            }
            return way == RESTS ? giveByRests(h) : giveByPrices(poll, way, h);
        }

        private boolean giveByPrices(Poll poll, int way, int h) {
            int taken = 0;
            for (int place = 0; place < PARTIES; place++) {
                got[place] = floors[place];
                taken += floors[place];
                priceNext(poll, way, place);
            }
            if (taken > h) {
                return false;
            }
            for (int n = taken; n < h && wentCount < MOST_HOUSE; n++) {
                int place = dearest();
                got[place]++;
                priceNext(poll, way, place);
                went[wentCount++] = place;
            }
            return true;
        }

        private void priceNext(Poll poll, int way, int place) {
            int n = got[place] + 1;
            nextAbove[place] = poll.priceAbove(way, weights[place], n);
            nextBelow[place] = poll.markAbove(way, n);
        }

        /** The least with the dearest next seat; the others with that PRICE become asGood. */
        private int dearest() {
            int best = -1;
            for (int place = 0; place < PARTIES; place++) {
                if (!holds(present, place)) {
                    continue;
                }
                int sign = best < 0 ? 1
                        : comparePrices(nextAbove[place], nextBelow[place], nextAbove[best], nextBelow[best]);
                if (sign > 0) {
                    best = place;
                    asGood = 0;
                } else if (sign == 0) {
                    asGood |= 1 << place;
                }
            }
            return Math.max(best, 0);
        }

        private boolean giveByRests(int h) {
            long all = 0;
            for (int place = 0; place < PARTIES; place++) {
                all += weights[place];
            }
            if (all <= 0) {
                return false;
            }
            int left = h;
            int count = 0;
            for (int place = 0; place < PARTIES; place++) {
                int cut = (int) (weights[place] * h / all);
                rests[place] = weights[place] * h % all;
                got[place] = Math.max(floors[place], cut);
                left -= got[place];
                if (holds(present, place) && floors[place] <= cut) {
                    count = rank(place, count);
                }
            }
            if (left < 0 || (left > 0 && count == 0)) {
                return false;
            }
            for (int n = 0; n < left; n++) {
                got[ranked[n % count]]++;
            }
            return true;
        }

        /** Puts a place among the ranked ones by its rest, behind those with the same. */
        private int rank(int place, int count) {
            int at = count;
            while (at > 0 && rests[ranked[at - 1]] < rests[place]) {
                ranked[at] = ranked[at - 1];
                at--;
            }
            ranked[at] = place;
            return count + 1;
        }

        /** A side of the span of divisors: the dearest next seat, or the cheapest last one behind the LEASTS. */
        long edge(Poll poll, int way, boolean next, int part) {
            long above = 0;
            long below = 0;
            boolean found = false;
            for (int place = 0; place < PARTIES; place++) {
                if (!holds(present, place) || (!next && got[place] <= floors[place])) {
                    continue;
                }
                int n = next ? got[place] + 1 : got[place];
                long itsAbove = poll.priceAbove(way, weights[place], n);
                long itsBelow = poll.markAbove(way, n);
                int sign = comparePrices(itsAbove, itsBelow, above, below);
                if (!found || (next ? sign > 0 : sign < 0)) {
                    above = itsAbove;
                    below = itsBelow;
                    found = true;
                }
            }
            return found ? lowest(above, below, part) : NO;
        }
    }

    /** A HOUSE: seats of LISTS, and of the PARTIES in them. */
    private static final class House {
        final Giver lists = new Giver();
        final int[] partySeats = new int[PARTIES];
        int partyBits;
        private final Giver members = new Giver();

        /** Makes the HOUSE of h by a way; false, if it can't be. */
        boolean fill(Poll poll, int way, int h) {
            Arrays.fill(partySeats, 0);
            partyBits = poll.inBits();
            enterLists(poll);
            if (!lists.give(poll, way, h)) {
                return false;
            }
            for (int list = 0; list < PARTIES; list++) {
                enterMembers(poll, list);
                if (!members.give(poll, way, lists.got[list])) {
                    return false;
                }
                for (int party = 0; party < PARTIES; party++) {
                    partySeats[party] += members.got[party];
                }
            }
            return true;
        }

        private void enterLists(Poll poll) {
            lists.empty();
            for (int party = 0; party < PARTIES; party++) {
                if (holds(partyBits, party)) {
                    lists.enter(poll.listOf[party], poll.totalOf(party), poll.leasts[party]);
                }
            }
        }

        private void enterMembers(Poll poll, int list) {
            members.empty();
            for (int party = 0; party < PARTIES; party++) {
                if (holds(partyBits, party) && poll.listOf[party] == list) {
                    members.enter(party, poll.totalOf(party), poll.leasts[party]);
                }
            }
        }

        /** The amounts by which the seats of all PARTIES differ, added up. */
        int awayFrom(House other) {
            int sum = 0;
            for (int party = 0; party < PARTIES; party++) {
                sum += Math.abs(partySeats[party] - other.partySeats[party]);
            }
            return sum;
        }

        /** The least PARTY with fewer seats than in the other HOUSE; -1: none. */
        int leastBelow(House other) {
            for (int party = 0; party < PARTIES; party++) {
                if (partySeats[party] < other.partySeats[party]) {
                    return party;
                }
            }
            return -1;
        }

        int outsideQuota(Poll poll, int h) {
            long all = 0;
            for (int party = 0; party < PARTIES; party++) {
                if (holds(partyBits, party)) {
                    all += poll.totalOf(party);
                }
            }
            int bits = 0;
            for (int party = 0; party < PARTIES; party++) {
                if (!holds(partyBits, party) || all == 0) {
                    continue;
                }
                long times = (long) poll.totalOf(party) * h;
                long cut = times / all;
                long cutUpward = times % all == 0 ? cut : cut + 1;
                if (partySeats[party] < cut || partySeats[party] > cutUpward) {
                    bits |= 1 << party;
                }
            }
            return bits;
        }
    }

    /** The RINGS of a plan's CELLS, looked through in order for the first BETTER one. */
    private static final class Rings {
        private int wardBits;
        private int partyBits;
        private int size;
        private final int[] ringWards = new int[LONGEST_RING];
        private final int[] ringParties = new int[LONGEST_RING];
        private final int[] gainers = new int[LONGEST_RING];
        private final int[] losers = new int[LONGEST_RING];
        private final int[] tried = new int[CELLS];
        private final int[] cast = new int[CELLS];
        private final long[] nextMark = new long[CELLS];
        private final long[] lastMark = new long[CELLS];
        private long markBelow;

        void layOut(int wards, int parties) {
            wardBits = wards;
            partyBits = parties;
        }

        /** 1, if a RING is BETTER for these seats (it is kept then); 0, if none is; OVER. */
        int firstBetter(Poll poll, int[] seats) {
            System.arraycopy(poll.cast, 0, cast, 0, CELLS);
            System.arraycopy(seats, 0, tried, 0, CELLS);
            markBelow = poll.planMarkBelow();
            for (int cell = 0; cell < CELLS; cell++) {
                nextMark[cell] = poll.markAbove(poll.theWay, tried[cell] + 1);
                lastMark[cell] = poll.markAbove(poll.theWay, tried[cell]);
            }
            int most = Math.min(Integer.bitCount(wardBits), Integer.bitCount(partyBits));
            for (int k = 2; k <= LONGEST_RING && k <= most; k++) {
                size = k;
                int verdict = pickWard(0, wardBits);
                if (verdict != 0) {
                    return verdict;
                }
            }
            return 0;
        }

        private int pickWard(int depth, int left) {
            if (depth >= size || depth >= LONGEST_RING) {
                return pickParty(0, partyBits);
            }
            for (int ward = 0; ward < WARDS; ward++) {
                if (!holds(left, ward)) {
                    continue;
                }
                ringWards[depth] = ward;
                int verdict = pickWard(depth + 1, left & ~(1 << ward));
                if (verdict != 0) {
                    return verdict;
                }
            }
            return 0;
        }

        private int pickParty(int depth, int left) {
            if (depth >= size || depth >= LONGEST_RING) {
                return weigh();
            }
            boolean last = depth + 1 >= size || depth + 1 >= LONGEST_RING;
            int losingWard = ringWards[last ? 0 : depth + 1];
            for (int party = 0; party < PARTIES; party++) {
                // a CELL that loses must have a seat: RINGS in which it hasn't are passed over early
                if (!holds(left, party) || tried[cellOf(losingWard, party)] == 0) {
                    continue;
                }
                ringParties[depth] = party;
                gainers[depth] = cellOf(ringWards[depth], party);
                losers[depth] = cellOf(losingWard, party);
                int verdict = pickParty(depth + 1, left & ~(1 << party));
                if (verdict != 0) {
                    return verdict;
                }
            }
            return 0;
        }

        /** Holds the two products of the picked RING against each other: 1 BETTER, 0 not, OVER. */
        private int weigh() {
            long gain = 1;
            long loss = 1;
            // the order of the factors tells which of two answers a 0 behind large ones gives
            for (int i = 0; i < size && i < LONGEST_RING; i++) {
                gain = product(gain, cast[gainers[i]]);
                loss = product(loss, cast[losers[i]]);
            }
            for (int i = 0; i < size && i < LONGEST_RING; i++) {
                gain = product(gain, markBelow);
                loss = product(loss, markBelow);
            }
            for (int i = 0; i < size && i < LONGEST_RING; i++) {
                gain = product(gain, lastMark[losers[i]]);
                loss = product(loss, nextMark[gainers[i]]);
            }
            if (gain < 0 || loss < 0) {
                return OVER;
            }
            return gain > loss ? 1 : 0;
        }

        /** Moves the seats of the kept RING. */
        void turn(int[] seats) {
            for (int i = 0; i < size && i < LONGEST_RING; i++) {
                seats[gainers[i]]++;
                seats[losers[i]]--;
            }
        }

        /** Of the kept RING: 0 its size, 1 .. 4 its WARDS, 5 .. 8 its PARTIES. */
        int partOfRing(int what) {
            if (what < 1) {
                return size;
            }
            int place = (what - 1) % LONGEST_RING;
            if (place >= size) {
                return NOT_FOUND;
            }
            return what <= LONGEST_RING ? ringWards[place] : ringParties[place];
        }
    }

    /** THE PLAN; what it was SOLVED to is kept until something is told. */
    private static final class Plan {
        final int[] seated = new int[CELLS];
        final Rings rings = new Rings();
        private final House wholeHouse = new House();
        private final Giver wardAlone = new Giver();
        private boolean stale = true;
        private int outcome;

        void forget() {
            stale = true;
        }

        /** How many RINGS were done, STATE or OVER. */
        int settle(Poll poll) {
            if (stale) {
                int all = poll.sumOfSeats();
                boolean canBe = hasPlans(poll.theWay) && all >= 1 && all <= MOST_HOUSE
                        && wholeHouse.fill(poll, poll.theWay, all);
                outcome = canBe ? solveFrom(poll) : STATE;
                stale = false;
            }
            return outcome;
        }

        private static boolean hasPlans(int way) {
            return way == DOWN || way == HALF || way == UP || way == TOLD;
        }

        private int solveFrom(Poll poll) {
            rings.layOut(poll.wardBits(), wholeHouse.partyBits);
            begin(poll);
            for (int done = 0; done < MOST_RINGS; done++) {
                int verdict = rings.firstBetter(poll, seated);
                if (verdict < 0) {
                    return verdict;
                }
                if (verdict == 0) {
                    return done;
                }
                rings.turn(seated);
            }
            return MOST_RINGS;
        }

        private void begin(Poll poll) {
            for (int ward = 0; ward < WARDS; ward++) {
                int left = poll.wardSeats[ward];
                for (int party = 0; party < PARTIES; party++) {
                    int partyLeft = wholeHouse.partySeats[party];
                    for (int before = 0; before < ward; before++) {
                        partyLeft -= seated[cellOf(before, party)];
                    }
                    seated[cellOf(ward, party)] = Math.min(left, partyLeft);
                    left -= seated[cellOf(ward, party)];
                }
            }
        }

        /** Are told seats such that JUDGED takes them? (THE PLAN must be one that can be.) */
        boolean takes(Poll poll, int[] seats) {
            for (int cell = 0; cell < CELLS; cell++) {
                if (seats[cell] < 0) {
                    return false;
                }
            }
            // sums of 0 for wards and parties out of THE PLAN keep places without a CELL at 0
            for (int ward = 0; ward < WARDS; ward++) {
                long sum = 0;
                for (int party = 0; party < PARTIES; party++) {
                    sum += seats[cellOf(ward, party)];
                }
                if (sum != poll.wardSeats[ward]) {
                    return false;
                }
            }
            for (int party = 0; party < PARTIES; party++) {
                long sum = 0;
                for (int ward = 0; ward < WARDS; ward++) {
                    sum += seats[cellOf(ward, party)];
                }
                if (sum != wholeHouse.partySeats[party]) {
                    return false;
                }
            }
            return true;
        }

        long boundBetween(Poll poll, int r, int s, int part) {
            long bestAbove = 0;
            long bestBelow = 0;
            for (int party = 0; party < PARTIES; party++) {
                int mine = cellOf(r, party);
                int theirs = cellOf(s, party);
                if (!holds(wholeHouse.partyBits, party) || seated[theirs] == 0) {
                    continue;
                }
                long next = poll.markAbove(poll.theWay, seated[mine] + 1);
                long last = poll.markAbove(poll.theWay, seated[theirs]);
                if (next == 0 || last == 0 || poll.cast[theirs] == 0) {
                    return NO;
                }
                long above = product(product(poll.cast[mine], poll.planMarkBelow()), last);
                long below = product(product(poll.cast[theirs], poll.planMarkBelow()), next);
                if (above < 0 || below < 0) {
                    return NO;
                }
                long lowAbove = lowest(above, below, 0);
                long lowBelow = lowest(above, below, 1);
                long itsSide = product(lowAbove, bestBelow);
                long bestSide = product(bestAbove, lowBelow);
                if (itsSide < 0 || bestSide < 0) {
                    return NO;
                }
                if (bestBelow == 0 || itsSide > bestSide) {
                    bestAbove = lowAbove;
                    bestBelow = lowBelow;
                }
            }
            return lowest(bestAbove, bestBelow, part);
        }

        int elsewhere(Poll poll) {
            int sum = 0;
            for (int ward = 0; ward < WARDS; ward++) {
                if (poll.wardSeats[ward] == 0) {
                    continue;
                }
                wardAlone.empty();
                for (int party = 0; party < PARTIES; party++) {
                    if (holds(wholeHouse.partyBits, party)) {
                        wardAlone.enter(party, poll.cast[cellOf(ward, party)], 0);
                    }
                }
                if (!wardAlone.give(poll, poll.theWay, poll.wardSeats[ward])) {
                    return STATE;
                }
                for (int party = 0; party < PARTIES; party++) {
                    sum += Math.abs(seated[cellOf(ward, party)] - wardAlone.got[party]);
                }
            }
            return sum / 2;
        }
    }

    /** THE TAPE. */
    private static final class Tape {
        private final int[] bytes = new int[MOST_BYTES];
        int used;

        boolean takeByte(int letter) {
            if (used < 0 || used >= MOST_BYTES) {
                return false;
            }
            bytes[used++] = letter;
            return true;
        }

        /** Reads VOTES from a ward on into a copy of the poll: how many numbers, or -100 less the FAULT. */
        int parse(int firstWard, Poll copy, Poll poll) {
            copy.copyFrom(poll);
            int ward = firstWard;
            int party = 0;
            int at = 0;
            for (int count = 1; count <= CELLS; count++) {
                int figures = figuresAt(at);
                int value = valueOf(at, figures);
                if (figures == 0 || value > MOST_VOTES) {
                    return FAULTS_FROM - at;
                }
                copy.cast[cellOf(ward, party)] = value;
                at += figures;
                if (at >= used) {
                    return count;
                }
                if (bytes[at] == COMMA && party < PARTIES - 1) {
                    party++;
                } else if (bytes[at] == SLASH && ward < WARDS - 1) {
                    ward++;
                    party = 0;
                } else {
                    // a WARD that there isn't begins behind its /
                    return FAULTS_FROM - (bytes[at] == SLASH ? at + 1 : at);
                }
                at++;
            }
            return FAULTS_FROM - at;
        }

        private int figuresAt(int from) {
            int count = 0;
            while (count < MOST_FIGURES && from + count < used && isFigure(bytes[from + count])) {
                count++;
            }
            return count;
        }

        private int valueOf(int from, int figures) {
            int value = 0;
            for (int i = from; i < from + figures; i++) {
                value = value * 10 + bytes[i] - FIGURE_0;
            }
            return value;
        }

        private static boolean isFigure(int letter) {
            return letter >= FIGURE_0 && letter <= FIGURE_9;
        }
    }

    /** THE PAPER: the longest text, a plan of two figures each, has 71 bytes. */
    private static final class Sheet {
        final int[] bytes = new int[MOST_BYTES];
        int used;

        void putByte(int letter) {
            if (used >= 0 && used < MOST_BYTES) {
                bytes[used++] = letter;
            }
        }

        void putSeats(int[] seats, int from) {
            for (int party = 0; party < PARTIES; party++) {
                if (party > 0) {
                    putByte(COMMA);
                }
                int n = seats[from + party];
                if (n >= 10) {
                    putByte(FIGURE_0 + n / 10);
                }
                putByte(FIGURE_0 + n % 10);
            }
        }
    }

    /** ROWS. */
    private static final class Shelf {
        final int[][] places = new int[ROWS][MOST_PLACES];
        private final int[] sizes = new int[ROWS];

        Shelf() {
            Arrays.fill(sizes, -1);
        }

        boolean isThere(int row) {
            return sizes[row] >= 0;
        }

        boolean hasPlace(int row, int i) {
            return i >= 0 && i < sizes[row];
        }

        void makeRow(int row, int n) {
            Arrays.fill(places[row], 0);
            sizes[row] = n;
        }

        boolean put(int row, int i, int v) {
            if (!hasPlace(row, i)) {
                return false;
            }
            places[row][i] = v;
            return true;
        }

        /** Puts all cells from place i on, until a place isn't there. */
        boolean copyIn(int row, int i, int[] cells) {
            for (int cell = 0; cell < CELLS; cell++) {
                if (!put(row, i + cell, cells[cell])) {
                    return false;
                }
            }
            return true;
        }

        /** Takes 24 from place i on; false, if not all are there. */
        boolean copyOut(int row, int i, int[] cells) {
            if (i < 0 || i > sizes[row] - CELLS) {
                return false;
            }
            for (int cell = 0; cell < CELLS; cell++) {
                cells[cell] = places[row][i + cell];
            }
            return true;
        }
    }
}
