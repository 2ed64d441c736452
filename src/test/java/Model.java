import java.math.BigInteger;
import java.util.ArrayList;
import java.util.Arrays;
import java.util.List;
import java.util.TreeMap;

/**
 * A second SeatHouse, written from the document alone: slow, with BigInteger fractions, nothing kept between calls.
 * It has the methods that RandomTest holds against those of SeatHouse.
 */
final class Model {
    private static final long NO = Long.MIN_VALUE;
    private static final BigInteger LONGEST = BigInteger.valueOf(Long.MAX_VALUE);

    /** All that THE IMAGE keeps. */
    private static final class Told implements Cloneable {
        int[][] votes = new int[4][6];
        int[] seats = new int[4];
        int[] least = new int[6];
        int[] list = {0, 1, 2, 3, 4, 5};
        int bar = 0;
        int way = 0;
        int a = 1;
        int b = 2;

        Told copy() {
            Told t = new Told();
            for (int w = 0; w < 4; w++) {
                t.votes[w] = votes[w].clone();
            }
            t.seats = seats.clone();
            t.least = least.clone();
            t.list = list.clone();
            t.bar = bar;
            t.way = way;
            t.a = a;
            t.b = b;
            return t;
        }

        int total(int party) {
            int sum = 0;
            for (int[] ward : votes) {
                sum += ward[party];
            }
            return sum;
        }

        int all() {
            int sum = 0;
            for (int party = 0; party < 6; party++) {
                sum += total(party);
            }
            return sum;
        }

        List<Integer> parties() {
            List<Integer> in = new ArrayList<>();
            for (int party = 0; party < 6; party++) {
                if (total(party) > 0 && 1000L * total(party) >= (long) bar * all()) {
                    in.add(party);
                }
            }
            return in;
        }

        List<Integer> wards() {
            List<Integer> with = new ArrayList<>();
            for (int ward = 0; ward < 4; ward++) {
                if (seats[ward] > 0) {
                    with.add(ward);
                }
            }
            return with;
        }
    }

    /** A fraction; a FREE price has 0 below the line and the votes above it. */
    private record Part(BigInteger above, BigInteger below) {
        static Part of(long above, long below) {
            return new Part(BigInteger.valueOf(above), BigInteger.valueOf(below));
        }

        boolean free() {
            return below.signum() == 0;
        }

        int against(Part other) {
            if (free() || other.free()) {
                return free() && other.free() ? above.compareTo(other.above) : free() ? 1 : -1;
            }
            return above.multiply(other.below).compareTo(other.above.multiply(below));
        }

        long lowest(int part) {
            BigInteger g = above.gcd(below);
            return (part == 0 ? above : below).divide(g).longValueExact();
        }
    }

    /** What some were GIVEN: seats by their numbers, who got each behind the LEASTS, and the last tie. */
    private record Gift(TreeMap<Integer, Integer> seats, List<Integer> order, int tie) { }

    private record HouseOf(int[] parties, Gift lists) { }

    private record Ring(int[] wards, int[] parties) { }

    private Told now = new Told();
    private Told image = null;
    private final StringBuilder tape = new StringBuilder();
    private String sheet = "";
    private final int[][] rows = new int[4][];

    // ---- told

    long vote(int ward, int party, int v) {
        if (ward < 0 || ward > 3 || party < 0 || party > 5) {
            return -1;
        }
        if (v < 0 || v > 100000) {
            return -2;
        }
        int was = now.votes[ward][party];
        now.votes[ward][party] = v;
        return was;
    }

    long votes(int ward, int party) {
        if (ward < -1 || ward > 3 || party < -1 || party > 5) {
            return -1;
        }
        long sum = 0;
        for (int w = 0; w < 4; w++) {
            for (int p = 0; p < 6; p++) {
                if ((ward == -1 || ward == w) && (party == -1 || party == p)) {
                    sum += now.votes[w][p];
                }
            }
        }
        return sum;
    }

    long seats(int ward, int n) {
        if (ward < 0 || ward > 3) {
            return -1;
        }
        if (n < 0 || n > 30) {
            return -2;
        }
        int was = now.seats[ward];
        now.seats[ward] = n;
        return was;
    }

    long least(int party, int n) {
        if (party < 0 || party > 5) {
            return -1;
        }
        if (n < 0 || n > 9) {
            return -2;
        }
        int was = now.least[party];
        now.least[party] = n;
        return was;
    }

    long join(int party, int list) {
        if (party < 0 || party > 5 || list < 0 || list > 5) {
            return -1;
        }
        int was = now.list[party];
        now.list[party] = list;
        return was;
    }

    long bar(int n) {
        if (n < 0 || n > 500) {
            return -2;
        }
        int was = now.bar;
        now.bar = n;
        return was;
    }

    long way(int way) {
        if (way < 0 || way > 6) {
            return -1;
        }
        int was = now.way;
        now.way = way;
        return was;
    }

    long tell(int a, int b) {
        if (a < 0 || a > 99 || b < 1 || b > 99 || a > b) {
            return -2;
        }
        now.a = a;
        now.b = b;
        return 1;
    }

    long feed(int letter) {
        if (letter < 1 || letter > 127) {
            return -2;
        }
        if (tape.length() == 120) {
            return -4;
        }
        tape.append((char) letter);
        return tape.length();
    }

    long clear() {
        int was = tape.length();
        tape.setLength(0);
        return was;
    }

    long read(int ward) {
        if (ward < 0 || ward > 3) {
            return -1;
        }
        String text = tape.toString();
        tape.setLength(0);
        Told copy = now.copy();
        int numbers = 0;
        int at = 0;
        for (int w = ward; ; w++) {
            if (w > 3) {
                return -100 - at;
            }
            for (int p = 0; ; p++) {
                String figures = "";
                int begin = at;
                while (at < text.length() && figures.length() < 6 && "0123456789".indexOf(text.charAt(at)) >= 0) {
                    figures += text.charAt(at++);
                }
                if (figures.isEmpty() || Integer.parseInt(figures) > 100000) {
                    return -100 - begin;
                }
                copy.votes[w][p] = Integer.parseInt(figures);
                numbers++;
                if (at == text.length()) {
                    now = copy;
                    return numbers;
                }
                if (text.charAt(at) == '/') {
                    break;
                }
                if (text.charAt(at) != ',' || p == 5) {
                    return -100 - at;
                }
                at++;
            }
            at++;
        }
    }

    // ---- houses

    private static Part mark(Told t, int way, int n) {
        return switch (way) {
            case 0 -> Part.of(n, 1);
            case 1 -> Part.of(2L * n - 1, 2);
            case 2 -> Part.of(n - 1, 1);
            case 3 -> Part.of((long) n * (n - 1), 1);
            case 4 -> Part.of(2L * n * (n - 1), 2L * n - 1);
            case 5 -> Part.of((long) t.b * (n - 1) + t.a, t.b);
            default -> throw new IllegalStateException();
        };
    }

    /** By ROOT the square of the price. */
    private static Part priceOf(Told t, int way, long v, int n) {
        Part mark = mark(t, way, n);
        BigInteger votes = BigInteger.valueOf(v);
        if (mark.above.signum() == 0) {
            return new Part(votes, BigInteger.ZERO);
        }
        return new Part((way == 3 ? votes.multiply(votes) : votes).multiply(mark.below), mark.above);
    }

    /** Null: it can't be. */
    private static Gift give(Told t, int way, int h, TreeMap<Integer, Long> votes, TreeMap<Integer, Integer> leasts) {
        if (votes.isEmpty()) {
            return h == 0 ? new Gift(new TreeMap<>(), new ArrayList<>(), 0) : null;
        }
        return way == 6 ? giveRests(h, votes, leasts) : givePrices(t, way, h, votes, leasts);
    }

    private static int sum(TreeMap<Integer, Integer> map) {
        int sum = 0;
        for (int n : map.values()) {
            sum += n;
        }
        return sum;
    }

    private static Gift givePrices(Told t, int way, int h, TreeMap<Integer, Long> votes,
            TreeMap<Integer, Integer> leasts) {
        TreeMap<Integer, Integer> seats = new TreeMap<>(leasts);
        List<Integer> order = new ArrayList<>();
        int tie = 0;
        if (sum(seats) > h) {
            return null;
        }
        while (sum(seats) < h) {
            Part top = null;
            for (int who : votes.keySet()) {
                Part its = priceOf(t, way, votes.get(who), seats.get(who) + 1);
                if (top == null || its.against(top) > 0) {
                    top = its;
                }
            }
            int first = -1;
            tie = 0;
            for (int who : votes.keySet()) {
                if (priceOf(t, way, votes.get(who), seats.get(who) + 1).against(top) == 0) {
                    if (first < 0) {
                        first = who;
                    } else {
                        tie |= 1 << who;
                    }
                }
            }
            order.add(first);
            seats.merge(first, 1, Integer::sum);
        }
        return new Gift(seats, order, tie);
    }

    private static Gift giveRests(int h, TreeMap<Integer, Long> votes, TreeMap<Integer, Integer> leasts) {
        long all = 0;
        for (long v : votes.values()) {
            all += v;
        }
        TreeMap<Integer, Integer> seats = new TreeMap<>();
        List<Integer> open = new ArrayList<>();
        TreeMap<Integer, Long> rests = new TreeMap<>();
        for (int who : votes.keySet()) {
            int cut = (int) (votes.get(who) * h / all);
            rests.put(who, votes.get(who) * h % all);
            seats.put(who, Math.max(cut, leasts.get(who)));
            if (leasts.get(who) <= cut) {
                open.add(who);
            }
        }
        int left = h - sum(seats);
        if (left < 0 || left > 0 && open.isEmpty()) {
            return null;
        }
        open.sort((x, y) -> rests.get(x).equals(rests.get(y)) ? x - y : Long.compare(rests.get(y), rests.get(x)));
        for (int i = 0; left > 0; i = (i + 1) % open.size(), left--) {
            seats.merge(open.get(i), 1, Integer::sum);
        }
        return new Gift(seats, new ArrayList<>(), 0);
    }

    /** Null: it can't be. */
    private static HouseOf houseOf(Told t, int way, int h) {
        TreeMap<Integer, Long> votes = new TreeMap<>();
        TreeMap<Integer, Integer> leasts = new TreeMap<>();
        for (int p : t.parties()) {
            votes.merge(t.list[p], (long) t.total(p), Long::sum);
            leasts.merge(t.list[p], t.least[p], Integer::sum);
        }
        Gift lists = give(t, way, h, votes, leasts);
        if (lists == null) {
            return null;
        }
        int[] seats = new int[6];
        for (int list : votes.keySet()) {
            TreeMap<Integer, Long> v = new TreeMap<>();
            TreeMap<Integer, Integer> l = new TreeMap<>();
            for (int p : t.parties()) {
                if (t.list[p] == list) {
                    v.put(p, (long) t.total(p));
                    l.put(p, t.least[p]);
                }
            }
            Gift gift = give(t, way, lists.seats.get(list), v, l);
            if (gift == null) {
                return null;
            }
            gift.seats.forEach((p, n) -> seats[p] = n);
        }
        return new HouseOf(seats, lists);
    }

    private static int bits(List<Integer> places) {
        int bits = 0;
        for (int place : places) {
            bits |= 1 << place;
        }
        return bits;
    }

    private static boolean badHouse(int h) {
        return h < 0 || h > 60;
    }

    long in() {
        return bits(now.parties());
    }

    long house(int h, int party) {
        if (party < 0 || party > 5) {
            return -1;
        }
        if (badHouse(h)) {
            return -2;
        }
        HouseOf it = houseOf(now, now.way, h);
        return it == null ? -3 : it.parties[party];
    }

    long list(int h, int list) {
        if (list < 0 || list > 5) {
            return -1;
        }
        if (badHouse(h)) {
            return -2;
        }
        HouseOf it = houseOf(now, now.way, h);
        return it == null ? -3 : it.lists.seats.getOrDefault(list, 0);
    }

    long given(int h, int i) {
        if (badHouse(h)) {
            return -2;
        }
        HouseOf it = houseOf(now, now.way, h);
        if (it == null || now.way == 6) {
            return -3;
        }
        return i < 0 || i >= it.lists.order.size() ? -1 : it.lists.order.get(i);
    }

    long tie(int h) {
        if (badHouse(h)) {
            return -2;
        }
        HouseOf it = houseOf(now, now.way, h);
        return it == null || now.way == 6 ? -3 : it.lists.tie;
    }

    private static int apart(int[] one, int[] other) {
        int sum = 0;
        for (int i = 0; i < one.length; i++) {
            sum += Math.abs(one[i] - other[i]);
        }
        return sum / 2;
    }

    long differ(int h, int one, int other) {
        if (one < 0 || one > 6 || other < 0 || other > 6) {
            return -1;
        }
        if (badHouse(h)) {
            return -2;
        }
        HouseOf a = houseOf(now, one, h);
        HouseOf b = houseOf(now, other, h);
        return a == null || b == null ? -3 : apart(a.parties, b.parties);
    }

    long loses(int a, int b) {
        if (badHouse(a) || badHouse(b) || b < a) {
            return -2;
        }
        for (int h = a + 1; h <= b; h++) {
            if (loser(h) >= 0) {
                return h;
            }
        }
        return -5;
    }

    long loser(int h) {
        if (h < 1 || h > 60) {
            return -2;
        }
        HouseOf less = houseOf(now, now.way, h - 1);
        HouseOf more = houseOf(now, now.way, h);
        for (int p = 0; p < 6 && less != null && more != null; p++) {
            if (more.parties[p] < less.parties[p]) {
                return p;
            }
        }
        return -5;
    }

    long price(int party, int n, int part) {
        if (party < 0 || party > 5 || n < 1 || n > 60 || part < 0 || part > 1 || now.way == 6) {
            return NO;
        }
        Part price = priceOf(now, now.way, now.total(party), n);
        return price.free() ? NO : price.lowest(part);
    }

    long span(int h, int side, int part) {
        if (badHouse(h) || side < 0 || side > 1 || part < 0 || part > 1 || now.way == 3 || now.way == 6) {
            return NO;
        }
        HouseOf it = houseOf(now, now.way, h);
        if (it == null) {
            return NO;
        }
        Part best = null;
        for (int list : it.lists.seats.keySet()) {
            long v = 0;
            int least = 0;
            for (int p : now.parties()) {
                v += now.list[p] == list ? now.total(p) : 0;
                least += now.list[p] == list ? now.least[p] : 0;
            }
            int s = it.lists.seats.get(list);
            if (side == 1 && s <= least) {
                continue;
            }
            Part price = priceOf(now, now.way, v, side == 0 ? s + 1 : s);
            if (best == null || (side == 0 ? price.against(best) > 0 : price.against(best) < 0)) {
                best = price;
            }
        }
        return best == null || best.free() ? NO : best.lowest(part);
    }

    long quota(int h) {
        if (badHouse(h)) {
            return -2;
        }
        HouseOf it = houseOf(now, now.way, h);
        if (it == null) {
            return -3;
        }
        long all = 0;
        for (int p : now.parties()) {
            all += now.total(p);
        }
        int bits = 0;
        for (int p : now.parties()) {
            long exact = (long) now.total(p) * h;
            if (it.parties[p] < Math.floorDiv(exact, all) || it.parties[p] > -Math.floorDiv(-exact, all)) {
                bits |= 1 << p;
            }
        }
        return bits;
    }

    long alike(int h) {
        if (badHouse(h)) {
            return -2;
        }
        HouseOf it = houseOf(now, now.way, h);
        if (it == null) {
            return -3;
        }
        int bits = 0;
        for (int way = 0; way < 7; way++) {
            HouseOf other = houseOf(now, way, h);
            if (other != null && Arrays.equals(other.parties, it.parties)) {
                bits |= 1 << way;
            }
        }
        return bits;
    }

    long would(int ward, int party, int v, int h) {
        if (ward < 0 || ward > 3 || party < 0 || party > 5) {
            return -1;
        }
        if (v < 0 || v > 100000 || badHouse(h)) {
            return -2;
        }
        Told copy = now.copy();
        copy.votes[ward][party] = v;
        HouseOf it = houseOf(copy, now.way, h);
        return it == null ? -3 : it.parties[party];
    }

    long needs(int ward, int party, int h) {
        if (ward < 0 || ward > 3 || party < 0 || party > 5) {
            return -1;
        }
        if (badHouse(h)) {
            return -2;
        }
        HouseOf it = houseOf(now, now.way, h);
        if (it == null) {
            return -3;
        }
        for (int d = 1; d <= 300; d++) {
            long then = would(ward, party, now.votes[ward][party] + d, h);
            if (then > it.parties[party]) {
                return d;
            }
        }
        return -5;
    }

    private static String spelled(int[] seats) {
        StringBuilder text = new StringBuilder();
        for (int n : seats) {
            text.append(text.length() == 0 ? "" : ",").append(n);
        }
        return text.toString();
    }

    long spell(int h) {
        if (badHouse(h)) {
            return -2;
        }
        HouseOf it = houseOf(now, now.way, h);
        if (it == null) {
            return -3;
        }
        sheet = spelled(it.parties);
        return sheet.length();
    }

    long paper(int i) {
        return i < 0 || i >= sheet.length() ? -1 : sheet.charAt(i);
    }

    // ---- the plan

    private int wholeSize() {
        int sum = 0;
        for (int n : now.seats) {
            sum += n;
        }
        return sum;
    }

    /** The seats of the parties in THE PLAN; null: it can't be. */
    private int[] planHouse() {
        int h = wholeSize();
        if (h == 0 || h > 60 || now.way == 3 || now.way == 4 || now.way == 6) {
            return null;
        }
        HouseOf it = houseOf(now, now.way, h);
        return it == null ? null : it.parties;
    }

    private static List<int[]> arrangements(List<Integer> from, int k) {
        List<int[]> all = new ArrayList<>();
        if (k == 0) {
            all.add(new int[0]);
            return all;
        }
        for (int[] shorter : arrangements(from, k - 1)) {
            for (int next : from) {
                boolean fresh = true;
                for (int taken : shorter) {
                    fresh &= taken != next;
                }
                if (fresh) {
                    int[] longer = Arrays.copyOf(shorter, k);
                    longer[k - 1] = next;
                    all.add(longer);
                }
            }
        }
        return all;
    }

    private static final class Beyond extends RuntimeException {
        private static final long serialVersionUID = 1L;
    }

    private static BigInteger multiplied(List<Long> factors) {
        BigInteger product = BigInteger.ONE;
        for (long factor : factors) {
            product = product.multiply(BigInteger.valueOf(factor));
            if (product.compareTo(LONGEST) > 0) {
                throw new Beyond();
            }
        }
        return product;
    }

    private boolean better(int[][] seats, int[] r, int[] c) {
        int k = r.length;
        List<Long> up = new ArrayList<>();
        List<Long> down = new ArrayList<>();
        for (int i = 0; i < k; i++) {
            if (seats[r[(i + 1) % k]][c[i]] == 0) {
                return false;
            }
        }
        for (int what = 0; what < 3; what++) {
            for (int i = 0; i < k; i++) {
                int gain = r[i];
                int lose = r[(i + 1) % k];
                Part next = mark(now, now.way, seats[gain][c[i]] + 1);
                Part last = mark(now, now.way, seats[lose][c[i]]);
                if (what == 0) {
                    up.add((long) now.votes[gain][c[i]]);
                    down.add((long) now.votes[lose][c[i]]);
                } else if (what == 1) {
                    up.add(next.below.longValue());
                    down.add(last.below.longValue());
                } else {
                    up.add(last.above.longValue());
                    down.add(next.above.longValue());
                }
            }
        }
        return multiplied(up).compareTo(multiplied(down)) > 0;
    }

    /** Null: none; throws Beyond. */
    private Ring firstBetter(int[][] seats) {
        for (int k = 2; k <= Math.min(4, Math.min(now.wards().size(), now.parties().size())); k++) {
            List<int[]> parties = arrangements(now.parties(), k);
            for (int[] r : arrangements(now.wards(), k)) {
                for (int[] c : parties) {
                    if (better(seats, r, c)) {
                        return new Ring(r, c);
                    }
                }
            }
        }
        return null;
    }

    private int[][] solved = null;

    private int done() {
        int[] parties = planHouse();
        if (parties == null) {
            return -3;
        }
        int[] left = parties.clone();
        solved = new int[4][6];
        for (int w = 0; w < 4; w++) {
            int open = now.seats[w];
            for (int p = 0; p < 6; p++) {
                int n = Math.min(open, left[p]);
                solved[w][p] = n;
                open -= n;
                left[p] -= n;
            }
        }
        try {
            for (int done = 0; done < 200; done++) {
                Ring ring = firstBetter(solved);
                if (ring == null) {
                    return done;
                }
                int k = ring.wards.length;
                for (int i = 0; i < k; i++) {
                    solved[ring.wards[(i + 1) % k]][ring.parties[i]]--;
                    solved[ring.wards[i]][ring.parties[i]]++;
                }
            }
            return 200;
        } catch (Beyond e) {
            return -6;
        }
    }

    long solve() {
        return done();
    }

    long cell(int ward, int party) {
        if (ward < 0 || ward > 3 || party < 0 || party > 5) {
            return -1;
        }
        int done = done();
        return done < 0 ? done : solved[ward][party];
    }

    long bound(int r, int s, int part) {
        if (!now.wards().contains(r) || !now.wards().contains(s) || r == s || part < 0 || part > 1 || done() < 0) {
            return NO;
        }
        Part best = null;
        for (int p : now.parties()) {
            if (solved[s][p] == 0) {
                continue;
            }
            Part next = mark(now, now.way, solved[r][p] + 1);
            Part last = mark(now, now.way, solved[s][p]);
            BigInteger above = BigInteger.valueOf(now.votes[r][p]).multiply(next.below).multiply(last.above);
            BigInteger below = BigInteger.valueOf(now.votes[s][p]).multiply(last.below).multiply(next.above);
            if (last.above.signum() == 0 || below.signum() == 0) {
                return NO;
            }
            BigInteger g = above.gcd(below);
            Part its = new Part(above.divide(g), below.divide(g));
            if (best == null) {
                best = its;
                continue;
            }
            BigInteger one = best.above.multiply(its.below);
            BigInteger other = its.above.multiply(best.below);
            if (one.max(other).max(above).max(below).compareTo(LONGEST) > 0) {
                return NO;
            }
            best = other.compareTo(one) > 0 ? its : best;
        }
        return best == null ? NO : best.lowest(part);
    }

    long judge(int row, int i, int what) {
        if (row < 0 || row > 3 || what < 0 || what > 8) {
            return -1;
        }
        int[] parties = planHouse();
        if (rows[row] == null || i < 0 || (long) i + 24 > rows[row].length || parties == null) {
            return -3;
        }
        int[][] seats = new int[4][6];
        long[] wardSums = new long[4];
        long[] partySums = new long[6];
        for (int w = 0; w < 4; w++) {
            for (int p = 0; p < 6; p++) {
                seats[w][p] = rows[row][i + 6 * w + p];
                boolean isCell = now.wards().contains(w) && now.parties().contains(p);
                if (seats[w][p] < 0 || !isCell && seats[w][p] != 0) {
                    return -3;
                }
                wardSums[w] += seats[w][p];
                partySums[p] += seats[w][p];
            }
        }
        for (int w = 0; w < 4; w++) {
            if (wardSums[w] != now.seats[w]) {
                return -3;
            }
        }
        for (int p = 0; p < 6; p++) {
            if (partySums[p] != parties[p]) {
                return -3;
            }
        }
        try {
            Ring ring = firstBetter(seats);
            if (ring == null) {
                return -5;
            }
            int[] of = what <= 4 ? ring.wards : ring.parties;
            int place = what <= 4 ? what - 1 : what - 5;
            return what == 0 ? of.length : place < of.length ? of[place] : -5;
        } catch (Beyond e) {
            return -6;
        }
    }

    long moved() {
        int done = done();
        if (done < 0) {
            return done;
        }
        int sum = 0;
        for (int w : now.wards()) {
            TreeMap<Integer, Long> votes = new TreeMap<>();
            TreeMap<Integer, Integer> leasts = new TreeMap<>();
            for (int p : now.parties()) {
                votes.put(p, (long) now.votes[w][p]);
                leasts.put(p, 0);
            }
            Gift gift = give(now, now.way, now.seats[w], votes, leasts);
            if (gift == null) {
                return -3;
            }
            for (int p : now.parties()) {
                sum += Math.abs(gift.seats.get(p) - solved[w][p]);
            }
        }
        return sum / 2;
    }

    long spellPlan() {
        int done = done();
        if (done < 0) {
            return done;
        }
        sheet = spelled(solved[0]) + "/" + spelled(solved[1]) + "/" + spelled(solved[2]) + "/" + spelled(solved[3]);
        return sheet.length();
    }

    long told(int what) {
        if (what >= 10 && what <= 13) {
            return now.seats[what - 10];
        }
        if (what >= 20 && what <= 25) {
            return now.least[what - 20];
        }
        if (what >= 30 && what <= 35) {
            return now.list[what - 30];
        }
        List<Integer> lists = new ArrayList<>();
        now.parties().forEach(p -> lists.add(now.list[p]));
        return switch (what) {
            case 0 -> now.all();
            case 1 -> wholeSize();
            case 2 -> now.way;
            case 3 -> now.bar;
            case 4 -> now.a;
            case 5 -> now.b;
            case 6 -> tape.length();
            case 7 -> sheet.length();
            case 8 -> bits(lists);
            case 9 -> bits(now.wards());
            default -> -1;
        };
    }

    // ---- rows, the image

    long row(int row, int n) {
        if (row < 0 || row > 3) {
            return -1;
        }
        if (n > 40) {
            return -2;
        }
        if (n < 0) {
            return -14;
        }
        rows[row] = new int[n];
        return 1;
    }

    long set(int row, int i, int v) {
        if (row < 0 || row > 3) {
            return -1;
        }
        if (rows[row] == null) {
            return -11;
        }
        if (i < 0 || i >= rows[row].length) {
            return -13;
        }
        rows[row][i] = v;
        return 1;
    }

    long get(int row, int i) {
        if (row < 0 || row > 3 || rows[row] == null || i < 0 || i >= rows[row].length) {
            return NO;
        }
        return rows[row][i];
    }

    long lay(int row, int i) {
        if (row < 0 || row > 3) {
            return -1;
        }
        if (rows[row] == null) {
            return -11;
        }
        int done = done();
        if (done < 0) {
            return done;
        }
        for (int n = 0; n < 24; n++) {
            if (i < 0 || (long) i + n >= rows[row].length) {
                return -13;
            }
            rows[row][i + n] = solved[n / 6][n % 6];
        }
        return 24;
    }

    long image() {
        image = now.copy();
        return now.all();
    }

    long undo() {
        if (image == null) {
            return -3;
        }
        now = image.copy();
        return now.all();
    }
}
