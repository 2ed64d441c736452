import java.math.BigInteger;
import java.util.function.Supplier;

/** Promises 29 to 34 (the plan) and Terms 2: each sentence that names a boundary case. */
public final class PlanEdgesTest {
    private static final int NONE = -1;
    private static final int STATE = -3;
    private static final int OVER = -6;
    private static final long NO = Edges.NO;
    private static final int LOW = Edges.LOW;
    private static final int HIGH = Edges.HIGH;
    private static final int[] NO_WARD = {-1, 4, LOW, HIGH};
    private static final int[] NO_PARTY = {-1, 6, LOW, HIGH};
    private static final Edges edges = new Edges("PlanEdgesTest");

    public static void main(String[] args) {
        howManySeats();
        housesThatCant();
        waysWithPlans();
        begun();
        cellsOfThePlan();
        betterIsMore();
        losersHaveSeats();
        ringsOfAllSizes();
        unlikeOnes();
        ringsInOrder();
        atMost200();
        behind200();
        beyondALong();
        wrappedAround();
        beyondByTheOrder();
        solvedAnew();
        noBounds();
        marksOfZero();
        greatestBounds();
        largeBounds();
        judgedPlaces();
        judgedSums();
        judgedPlans();
        judgedRings();
        judgedOver();
        movedSeats();
        spelledPlans();
        askedChangesNothing();
        edges.end();
    }

    private static void planIs(SeatHouse x, String want) {
        edges.is("the plan", Scene.planOf(x), want);
    }

    /** All calls that ask for THE PLAN as SOLVED answer so, and nothing changes by them. */
    private static void noPlan(String why, Supplier<SeatHouse> scene, int answer) {
        edges.keeps(scene, why + ": solve", answer, y -> y.solve());
        edges.keeps(scene, why + ": cell", answer, y -> y.cell(0, 0));
        edges.keeps(scene, why + ": cell of no CELL", answer, y -> y.cell(3, 5));
        edges.keeps(scene, why + ": moved", answer, y -> y.moved());
        edges.keeps(scene, why + ": spellPlan", answer, y -> y.spellPlan());
        edges.keeps(scene, why + ": lay", answer, y -> y.lay(0, 0));
        edges.keeps(scene, why + ": lay, where not all have a place", answer, y -> y.lay(0, 39));
        edges.keeps(scene, why + ": bound", NO, y -> y.bound(0, 1, 0));
        edges.keeps(scene, why + ": bound, below", NO, y -> y.bound(0, 1, 1));
        for (int no : NO_WARD) {
            edges.keeps(scene, why + ": cell of ward " + no, NONE, y -> y.cell(no, 0));
        }
        for (int no : NO_PARTY) {
            edges.keeps(scene, why + ": cell of party " + no, NONE, y -> y.cell(0, no));
        }
    }

    private static SeatHouse busyWithSeats(int... n) {
        SeatHouse x = Scene.busy();
        Scene.seats(x, n);
        return x;
    }

    private static void howManySeats() {
        edges.says("29: STATE: H is 0 or above 60");
        noPlan("H is 0", () -> busyWithSeats(0, 0, 0, 0), STATE);
        noPlan("H is 61", () -> busyWithSeats(30, 30, 0, 1), STATE);
        noPlan("H is 120", () -> busyWithSeats(30, 30, 30, 30), STATE);
        noPlan("nothing told", () -> {
            SeatHouse x = new SeatHouse();
            x.row(0, 40);
            return x;
        }, STATE);
        SeatHouse x = busyWithSeats(30, 30, 0, 0);
        edges.is("H is 60", x.solve() >= 0 ? 1 : 0, 1);
        x = busyWithSeats(15, 15, 15, 15);
        edges.is("H is 60 in four", x.solve() >= 0 ? 1 : 0, 1);
        x = Scene.with("1/1");
        x.seats(3, 1);
        edges.is("H is 1, in a WARD without VOTES", x.solve(), 0);
        planIs(x, "0,0,0,0,0,0/0,0,0,0,0,0/0,0,0,0,0,0/1,0,0,0,0,0");
    }

    private static void housesThatCant() {
        edges.says("29: STATE: its HOUSE can't be");
        noPlan("nobody is IN", () -> {
            SeatHouse x = Scene.busy();
            x.bar(500);
            return x;
        }, STATE);
        noPlan("LEASTS are more than H", () -> {
            SeatHouse x = Scene.busy();
            x.least(0, 6);
            x.least(1, 8);
            return x;
        }, STATE);
        SeatHouse x = Scene.busy();
        x.least(0, 6);
        x.least(1, 7);
        edges.is("LEASTS are as many as H", x.solve() >= 0 ? 1 : 0, 1);
        edges.is("seats of 0", x.cell(0, 0) + x.cell(1, 0) + x.cell(2, 0) + x.cell(3, 0), 6);
        edges.is("seats of 2", x.cell(0, 2) + x.cell(1, 2) + x.cell(2, 2) + x.cell(3, 2), 0);
    }

    private static void waysWithPlans() {
        edges.says("29: STATE: the WAY is none of those (one of DOWN, HALF, UP, TOLD)");
        for (int way : new int[] {3, 4, 6}) {
            noPlan("way " + way, () -> {
                SeatHouse x = Scene.busy();
                x.way(way);
                return x;
            }, STATE);
        }
        for (int way : new int[] {0, 1, 2, 5}) {
            SeatHouse x = Scene.busy();
            x.way(way);
            edges.is("way " + way, x.solve() >= 0 ? 1 : 0, 1);
        }
    }

    private static void begun() {
        edges.says("Terms 2: BEGUN: WARD by WARD, PARTY by PARTY, each CELL gets as many seats as both have left");
        // all votes alike: no RING is BETTER than what is BEGUN
        SeatHouse x = Scene.with("5,5,5/5,5,5/5,5,5/5,5,5");
        Scene.seats(x, 1, 1, 1, 0);
        edges.is("one each", x.solve(), 0);
        planIs(x, "1,0,0,0,0,0/0,1,0,0,0,0/0,0,1,0,0,0/0,0,0,0,0,0");
        x = Scene.with("100,1/100,1");
        Scene.seats(x, 0, 3, 0, 2);
        planIs(x, "0,0,0,0,0,0/3,0,0,0,0,0/0,0,0,0,0,0/2,0,0,0,0,0");
        x = Scene.with("7,0,0,7");
        Scene.seats(x, 0, 0, 3, 1);
        edges.is("no VOTES in these WARDS", x.solve(), 0);
        planIs(x, "0,0,0,0,0,0/0,0,0,0,0,0/2,0,0,1,0,0/0,0,0,1,0,0");
    }

    private static void cellsOfThePlan() {
        edges.says("30: NONE: either");
        for (int no : NO_WARD) {
            edges.keeps("ward " + no, NONE, y -> y.cell(no, 0));
        }
        for (int no : NO_PARTY) {
            edges.keeps("party " + no, NONE, y -> y.cell(0, no));
        }
        edges.says("30: (0, where there is no CELL)");
        SeatHouse x = Scene.with("8,2,1/8,2,1/8,2,1/8,2,1");
        Scene.seats(x, 0, 3, 4, 0);
        x.bar(100);
        edges.is("solved", x.solve() >= 0 ? 1 : 0, 1);
        for (int i = 0; i < 6; i++) {
            edges.is("no SEATS in ward 0", x.cell(0, i), 0);
            edges.is("no SEATS in ward 3", x.cell(3, i), 0);
        }
        for (int ward = 0; ward < 4; ward++) {
            edges.is("not IN: 2", x.cell(ward, 2), 0);
            edges.is("without VOTES: 5", x.cell(ward, 5), 0);
        }
        edges.is("all of ward 1", x.cell(1, 0) + x.cell(1, 1), 3);
        edges.is("all of ward 2", x.cell(2, 0) + x.cell(2, 1), 4);
    }

    private static void betterIsMore() {
        edges.says("Terms 2: BETTER, if the product .. is more");
        SeatHouse x = Scene.with("6,4/9,6");
        Scene.seats(x, 1, 1);
        x.least(1, 1);
        edges.is("4 x 9 isn't more than 6 x 6", x.solve(), 0);
        x.vote(1, 0, 10);
        edges.is("4 x 10 is more", x.solve(), 1);
        planIs(x, "0,1,0,0,0,0/1,0,0,0,0,0/0,0,0,0,0,0/0,0,0,0,0,0");
        x.vote(1, 0, 9);
        x.vote(1, 1, 5);
        edges.is("4 x 9 is more than 6 x 5", x.solve(), 1);
        x.vote(0, 1, 0);
        edges.is("0 x 9 isn't", x.solve(), 0);
        x.vote(0, 0, 0);
        edges.is("0 isn't more than 0", x.solve(), 0);
        edges.says("Terms 2: .. of the next seats of those that gain, of the last seats of those that lose");
        x = Scene.with("2,1/3,4");
        Scene.seats(x, 2, 1);
        x.least(0, 2);
        x.least(1, 1);
        // DOWN: 1 by 1 x 3 by 1 against 2 by 2 x 4 by 1
        edges.is("3 isn't more than 4", x.solve(), 0);
        x.vote(1, 1, 3);
        edges.is("3 isn't more than 3", x.solve(), 0);
        x.vote(1, 1, 2);
        edges.is("3 is more than 2", x.solve(), 1);
        planIs(x, "1,1,0,0,0,0/1,0,0,0,0,0/0,0,0,0,0,0/0,0,0,0,0,0");
    }

    private static void losersHaveSeats() {
        edges.says("Terms 2: BETTER, if these that lose have a seat each");
        for (int way : new int[] {0, 1, 2, 5}) {
            SeatHouse x = Scene.with("1000,1/1,1000");
            Scene.seats(x, 1, 1);
            x.least(1, 1);
            x.way(way);
            x.tell(99, 99);
            edges.is("no seat in 0 1 and 1 0, way " + way, x.solve(), 0);
            planIs(x, "1,0,0,0,0,0/0,1,0,0,0,0/0,0,0,0,0,0/0,0,0,0,0,0");
        }
    }

    private static void ringsOfAllSizes() {
        edges.says("Terms 2: A RING of k (2 .. 4, k at most as many as WARDS, PARTIES)");
        SeatHouse x = Scene.with("5,10/10,5");
        Scene.seats(x, 1, 1);
        edges.is("k 2", x.solve(), 1);
        planIs(x, "0,1,0,0,0,0/1,0,0,0,0,0/0,0,0,0,0,0/0,0,0,0,0,0");
        x = Scene.with("5,10/0,5,10/10,0,5");
        Scene.seats(x, 1, 1, 1);
        edges.is("k 3 alone", x.solve(), 1);
        planIs(x, "0,1,0,0,0,0/0,0,1,0,0,0/1,0,0,0,0,0/0,0,0,0,0,0");
        x = Scene.with("5,10/0,5,10/0,0,5,10/10,0,0,5");
        Scene.seats(x, 1, 1, 1, 1);
        edges.is("k 4 alone", x.solve(), 1);
        planIs(x, "0,1,0,0,0,0/0,0,1,0,0,0/0,0,0,1,0,0/1,0,0,0,0,0");
        x = Scene.with("5,10/0,5,10/0,0,5,10/10,0,0,5");
        Scene.seats(x, 1, 1, 1, 1);
        x.vote(3, 0, 0);
        x.vote(3, 1, 10);
        x.vote(0, 0, 15);
        edges.is("k 3 from ward 1 on", x.solve(), 1);
        planIs(x, "1,0,0,0,0,0/0,0,1,0,0,0/0,0,0,1,0,0/0,1,0,0,0,0");
        edges.says("Terms 2: of the last WARDS and PARTIES too");
        x = new SeatHouse();
        x.vote(2, 4, 5);
        x.vote(2, 5, 10);
        x.vote(3, 4, 10);
        x.vote(3, 5, 5);
        Scene.seats(x, 0, 0, 1, 1);
        edges.is("k 2", x.solve(), 1);
        planIs(x, "0,0,0,0,0,0/0,0,0,0,0,0/0,0,0,0,0,1/0,0,0,0,1,0");
        edges.says("Terms 2: one WARD or one PARTY has no RINGS");
        x = Scene.with("5,10");
        x.seats(0, 30);
        edges.is("one WARD", x.solve(), 0);
        planIs(x, "10,20,0,0,0,0/0,0,0,0,0,0/0,0,0,0,0,0/0,0,0,0,0,0");
        x = Scene.with("5/10/1/1");
        Scene.seats(x, 1, 2, 3, 4);
        edges.is("one PARTY", x.solve(), 0);
        planIs(x, "1,0,0,0,0,0/2,0,0,0,0,0/3,0,0,0,0,0/4,0,0,0,0,0");
    }

    private static void unlikeOnes() {
        edges.says("Terms 2: unlike WARDS r1 .. rk");
        SeatHouse x = Scene.with("100000,100000/1,1");
        Scene.seats(x, 12, 2);
        x.way(5);
        x.tell(99, 99);
        // twice WARD 0 would be OVER: its sixths
        edges.is("one is done", x.solve(), 1);
        planIs(x, "6,6,0,0,0,0/1,1,0,0,0,0/0,0,0,0,0,0/0,0,0,0,0,0");
        edges.says("Terms 2: unlike PARTIES c1 .. ck");
        x = Scene.with("100000,1/100000,1");
        Scene.seats(x, 7, 7);
        x.least(1, 2);
        x.way(5);
        x.tell(99, 99);
        // twice PARTY 0 would be OVER: its sixths
        edges.is("one is done", x.solve(), 1);
        planIs(x, "6,1,0,0,0,0/6,1,0,0,0,0/0,0,0,0,0,0/0,0,0,0,0,0");
    }

    /** Row 0 gets told seats, 24; the first BETTER RING of them must be this: k, WARDS, PARTIES (-5: k is less). */
    private static void ringIs(SeatHouse x, int[] seats, int... want) {
        x.row(0, 24);
        Scene.setRow(x, 0, seats);
        for (int what = 0; what < 9; what++) {
            edges.is("judged " + what, x.judge(0, 0, what), want[what]);
        }
    }

    private static void ringsInOrder() {
        edges.says("Terms 2: RINGS in order: those of lesser k first");
        SeatHouse x = Scene.with("1,50,50/50,1,50/50,50,1");
        Scene.seats(x, 1, 1, 1);
        int[] straight = {1, 0, 0, 0, 0, 0, 0, 1, 0, 0, 0, 0, 0, 0, 1};
        ringIs(x, straight, 2, 0, 1, -5, -5, 1, 0, -5, -5);
        edges.says("Terms 2: of one k by r1, .., rk");
        x.vote(0, 1, 0);
        ringIs(x, straight, 2, 0, 2, -5, -5, 2, 0, -5, -5);
        x.vote(0, 2, 0);
        ringIs(x, straight, 2, 1, 2, -5, -5, 2, 1, -5, -5);
        edges.says("Terms 2: then by c1, .., ck (lesser numbers first)");
        x = Scene.with("1,1,50,50/50,50,1,1");
        Scene.seats(x, 2, 2);
        int[] halves = {1, 1, 0, 0, 0, 0, 0, 0, 1, 1};
        ringIs(x, halves, 2, 0, 1, -5, -5, 2, 0, -5, -5);
        x.vote(0, 2, 1);
        x.vote(1, 2, 50);
        x.least(2, 1);
        ringIs(x, halves, 2, 0, 1, -5, -5, 3, 0, -5, -5);
        x.vote(0, 0, 50);
        x.vote(1, 0, 1);
        ringIs(x, halves, 2, 0, 1, -5, -5, 3, 1, -5, -5);
        edges.says("Terms 2: rings of 3 by r2 ahead of r3");
        x = Scene.with("5,10/0,5,10/10,0,5");
        Scene.seats(x, 1, 1, 1);
        ringIs(x, straight, 3, 0, 1, 2, -5, 1, 2, 0, -5);
        x = Scene.with("5,0,10/10,5,0/0,10,5");
        Scene.seats(x, 1, 1, 1);
        ringIs(x, straight, 3, 0, 2, 1, -5, 2, 1, 0, -5);
    }

    /** Fifteen SEATS in each WARD, by HALF, with VOTES that were found by search. */
    private static SeatHouse sixty(String ofTwoWards, String ofTheOthers) {
        SeatHouse x = Scene.with(ofTwoWards);
        Scene.feed(x, ofTheOthers);
        x.read(2);
        Scene.seats(x, 15, 15, 15, 15);
        x.way(1);
        return x;
    }

    /** Is a RING BETTER in THE PLAN as SOLVED? Its k, -5 or OVER. */
    private static int leftOver(SeatHouse x) {
        x.row(3, 24);
        x.lay(3, 0);
        return x.judge(3, 0, 0);
    }

    private static void atMost200() {
        edges.says("Terms 2: as long as one is BETTER, the first one in order is done (200 at most)");
        SeatHouse x = sixty("85,131,178,138,236,109/154,36,64,206,99,107", "259,35,37,43,74,162/78,74,272,245,9,12");
        edges.is("199, then none is BETTER", x.solve(), 199);
        edges.is("none is left of 199", leftOver(x), -5);
        x = sixty("85,131,178,138,236,109/154,36,64,206,99,108", "259,35,37,33,74,144/78,74,265,245,9,12");
        edges.is("200, then none is BETTER", x.solve(), 200);
        edges.is("none is left of 200", leftOver(x), -5);
        x = sixty("85,131,178,138,236,109/154,36,64,206,99,107", "236,35,37,43,74,138/78,74,260,238,9,12");
        edges.is("200, although one is left", x.solve(), 200);
        edges.is("one is left", leftOver(x), 2);
    }

    private static void behind200() {
        edges.says("Terms 2: (200 at most; behind these none is looked for)");
        SeatHouse x = sixty("5403,13113,9073,18939,18991,10877/8766,5340,9211,19634,19955,18489",
                "6501,19752,2961,4531,736,17284/458,12296,18227,3860,15832,24");
        edges.is("OVER behind 199", x.solve(), OVER);
        x = sixty("5403,13113,9073,18939,18991,10877/8766,5340,9211,13031,19955,18489",
                "6501,19752,2961,5244,736,17284/458,13127,18884,3860,15832,24");
        edges.is("OVER would be behind 200", x.solve(), 200);
        edges.is("it is, where it is looked for", leftOver(x), OVER);
        edges.is("the plan is there", x.cell(0, 0) >= 0 ? 1 : 0, 1);
        edges.is("bounds are there", x.bound(0, 1, 1) > 0 ? 1 : 0, 1);
        x = sixty("588,2320,17093,3593,11516,17343/13702,8400,1213,1409,6242,17638",
                "3461,3689,7324,16819,711,9006/16468,360,2940,10167,16345,4700");
        edges.is("a BETTER one is behind 200, then OVER would be", x.solve(), 200);
        edges.is("it is left", leftOver(x) >= 2 ? 1 : 0, 1);
    }

    /** Four WARDS, each with the same VOTES for all of four PARTIES: products of four are all the same. */
    private static SeatHouse rowsOf(int... votes) {
        SeatHouse x = new SeatHouse();
        for (int ward = 0; ward < votes.length; ward++) {
            for (int party = 0; party < votes.length; party++) {
                x.vote(ward, party, votes[ward]);
            }
            x.seats(ward, 1);
        }
        return x;
    }

    private static void beyondALong() {
        edges.says("29: OVER: a product would be beyond a long");
        edges.is("2 to the 63rd less 8", rowsOf(80581, 99962, 82615, 13860).solve(), 0);
        edges.is("2 to the 63rd", rowsOf(65536, 65536, 65536, 32768).solve(), OVER);
        edges.is("2 to the 63rd and 115", rowsOf(82609, 69341, 21309, 75563).solve(), OVER);
        edges.is("55108 four times", rowsOf(55108, 55108, 55108, 55108).solve(), 0);
        edges.is("55109 four times", rowsOf(55109, 55109, 55109, 55109).solve(), OVER);
        edges.is("100000 three times", rowsOf(100000, 100000, 100000).solve(), 0);
        edges.is("100000 four times", rowsOf(100000, 100000, 100000, 100000).solve(), OVER);
        edges.says("29: OVER: of those that gain alone, of those that lose alone");
        SeatHouse x = rowsOf(1, 1, 1, 1);
        int[] next = {1, 2, 3, 0};
        for (int ward = 0; ward < 4; ward++) {
            x.vote(ward, ward, 100000);
            x.vote(ward, next[ward], 2);
        }
        edges.is("lose", x.solve(), OVER);
        x = rowsOf(0, 0, 0, 0);
        for (int ward = 0; ward < 4; ward++) {
            x.vote(ward, next[ward], 100000);
            x.vote(ward, ward, 1);
        }
        edges.is("gain", x.solve(), OVER);
        noPlan("OVER", Scene::over, OVER);
    }

    private static void wrappedAround() {
        edges.says("29: OVER, where a product wrapped around would be a good number");
        edges.is("2 to the 64th: 0", rowsOf(65536, 65536, 65536, 65536).solve(), OVER);
        // 100000 to the 4th is 7766279631452241920 beyond 5 times 2 to the 64th
        edges.is("100000 four times", rowsOf(100000, 100000, 100000, 100000).solve(), OVER);
        edges.says("29: OVER of two by TOLD");
        SeatHouse x = Scene.with("100000,100000/100000,100000");
        x.way(5);
        x.tell(99, 99);
        Scene.seats(x, 6, 6);
        x.least(0, 6);
        x.least(1, 6);
        // 0 has 6 in WARD 0, 1 has 6 in WARD 1: k VOTES, k q: 98010000000000, times 6 x 99, twice: 34 x 10 to the 18th
        edges.is("last seats are sixths", x.solve(), OVER);
        Scene.seats(x, 3, 3);
        x.least(0, 3);
        x.least(1, 3);
        edges.is("last seats are thirds: 8645462090000000000, a RING is done", x.solve(), 1);
        Scene.seats(x, 4, 4);
        x.least(0, 4);
        x.least(1, 4);
        edges.is("last seats are fourths", x.solve(), OVER);
    }

    private static void beyondByTheOrder() {
        edges.says("Terms 2: multiplied in this order: k VOTES, k q, k p; by the RING's order");
        SeatHouse x = rowsOf(100000, 100000, 100000, 100000);
        for (int ward = 0; ward < 4; ward++) {
            x.vote(3, ward, 0);
            x.vote(2, ward, 0);
        }
        x.least(0, 1);
        edges.is("VOTES of 0 behind two", x.solve(), 0);
        x = rowsOf(100000, 100000, 100000, 100000);
        x.way(2);
        edges.is("MARKS of 0 behind all VOTES", x.solve(), OVER);
        x = rowsOf(50000, 50000, 50000, 50000);
        x.way(2);
        edges.is("6250000000000000000, then MARKS of 0", x.solve(), 0);
        x = rowsOf(100000, 100000, 100000);
        x.way(5);
        x.tell(0, 20);
        edges.is("8 by 10 to the 18th by k q, then MARKS of 0", x.solve(), 0);
        x.tell(0, 21);
        edges.is("9261 by 10 to the 15th is beyond by k q, ahead of MARKS of 0", x.solve(), OVER);
    }

    private static void solvedAnew() {
        edges.says("29 to 34: as SOLVED, of what is told now");
        SeatHouse x = Scene.with("2,20/20,3");
        Scene.seats(x, 1, 1);
        edges.is("solved", x.solve(), 1);
        edges.is("0 1", x.cell(0, 1), 1);
        x.vote(0, 1, 0);
        edges.is("vote", x.cell(0, 1), 0);
        x.vote(0, 1, 20);
        x.seats(0, 3);
        edges.is("seats", x.cell(0, 0) + x.cell(0, 1), 3);
        x.seats(0, 1);
        edges.is("seats again", x.cell(0, 0) + x.cell(0, 1), 1);
        x.least(0, 2);
        edges.is("least", x.cell(0, 0) + x.cell(1, 0), 2);
        x.least(0, 0);
        edges.is("least again", x.cell(0, 0) + x.cell(1, 0), 1);
        x.bar(500);
        edges.is("bar", x.cell(0, 1) + x.cell(1, 1), 2);
        x.bar(0);
        edges.is("bar again", x.cell(0, 1) + x.cell(1, 1), 1);
        x.vote(0, 0, 1);
        x.vote(1, 0, 10);
        x.vote(1, 2, 10);
        x.join(2, 2);
        edges.is("three lists", x.cell(0, 1) + x.cell(1, 1), 2);
        x.join(2, 0);
        edges.is("join", x.cell(0, 1) + x.cell(1, 1), 1);
        x.way(2);
        edges.is("way", x.solve() >= 0 ? 1 : 0, 1);
        x.way(6);
        edges.is("way RESTS", x.cell(0, 0), STATE);
        x = Scene.with("90,10/0,10");
        Scene.seats(x, 2, 2);
        x.way(5);
        x.tell(1, 1);
        edges.is("TOLD 1 by 1", x.cell(0, 1) + x.cell(1, 1), 0);
        x.tell(0, 1);
        edges.is("tell", x.cell(0, 1) + x.cell(1, 1), 1);
        x.image();
        x.tell(1, 1);
        edges.is("tell again", x.cell(0, 1) + x.cell(1, 1), 0);
        x.undo();
        edges.is("undo", x.cell(0, 1) + x.cell(1, 1), 1);
        x = Scene.with("2,20/20,3");
        Scene.seats(x, 1, 1);
        edges.is("0 0", x.cell(0, 0), 0);
        Scene.feed(x, "20,2/3");
        x.read(0);
        edges.is("read", x.cell(0, 0), 1);
        Scene.feed(x, "2,20/20,x");
        x.read(0);
        edges.is("read with a FAULT", x.cell(0, 0), 1);
        SeatHouse fresh = Scene.with("2,20/20,3");
        Scene.seats(fresh, 1, 1);
        edges.is("solved without solve()", fresh.cell(0, 1), 1);
    }

    private static SeatHouse twoWards() {
        SeatHouse x = Scene.with("10,3,6/4,12,18/1,1,1");
        Scene.seats(x, 1, 2);
        return x;
    }

    private static void boundIs(SeatHouse x, int r, int s, long above, long below) {
        edges.is("bound " + r + " to " + s + " above", x.bound(r, s, 0), above);
        edges.is("bound " + r + " to " + s + " below", x.bound(r, s, 1), below);
    }

    private static void noBounds() {
        edges.says("31: NO: wards (unlike ones of THE PLAN)");
        for (int no : NO_WARD) {
            edges.keeps("r " + no, NO, y -> y.bound(no, 1, 0));
            edges.keeps("s " + no, NO, y -> y.bound(1, no, 1));
            edges.keeps("both " + no, NO, y -> y.bound(no, no, 0));
        }
        for (int ward = 0; ward < 4; ward++) {
            int same = ward;
            edges.keeps("like ones " + same, NO, y -> y.bound(same, same, 0));
            boundIs(twoWards(), 2, ward, NO, NO);
            boundIs(twoWards(), ward, 3, NO, NO);
        }
        edges.says("31: NO: part");
        for (int no : new int[] {-1, 2, LOW, HIGH}) {
            edges.keeps("part " + no, NO, y -> y.bound(0, 1, no));
        }
        edges.says("31: NO: it isn't SOLVED");
        boundIs(Scene.planless(), 0, 1, NO, NO);
        boundIs(Scene.over(), 0, 1, NO, NO);
        edges.says("31: part 0 above, 1 below the line, in lowest terms");
        boundIs(twoWards(), 0, 1, 1, 3);
        boundIs(twoWards(), 1, 0, 2, 5);
        edges.says("31: BOUND of the last WARDS");
        SeatHouse x = Scene.with("0/0/10,3,6/4,12,18");
        Scene.seats(x, 0, 0, 1, 2);
        boundIs(x, 2, 3, 1, 3);
        boundIs(x, 3, 2, 2, 5);
        edges.says("31: BOUND of VOTES of 1");
        x = Scene.with("1,1/1,1");
        Scene.seats(x, 1, 1);
        boundIs(x, 0, 1, 1, 1);
        boundIs(x, 1, 0, 1, 1);
    }

    private static void marksOfZero() {
        edges.says("Terms 2: BOUND: NO: p, p' or w of one is 0");
        // seats of WARD 0: 1, 1; of WARD 1: 2, 2
        SeatHouse x = Scene.with("5,5/10,10");
        Scene.seats(x, 2, 4);
        x.way(2);
        planIs(x, "1,1,0,0,0,0/2,2,0,0,0,0/0,0,0,0,0,0/0,0,0,0,0,0");
        boundIs(x, 0, 1, 1, 2);
        edges.says("Terms 2: BOUND: NO: p' of one is 0 (the last seat of 0 1 is a first)");
        boundIs(x, 1, 0, NO, NO);
        edges.says("Terms 2: BOUND: NO: p of one is 0 (the next seat of 0 1 is a first)");
        x = Scene.with("5,0/10,10");
        Scene.seats(x, 1, 4);
        x.way(2);
        x.least(0, 3);
        planIs(x, "1,0,0,0,0,0/2,2,0,0,0,0/0,0,0,0,0,0/0,0,0,0,0,0");
        boundIs(x, 0, 1, NO, NO);
        boundIs(x, 1, 0, NO, NO);
        x.way(5);
        x.tell(1, 99);
        planIs(x, "1,0,0,0,0,0/2,2,0,0,0,0/0,0,0,0,0,0/0,0,0,0,0,0");
        // v q p' by w q' p: 5 x 100 by 10 x 100, 0 of PARTY 1; 10 x 1 by 5 x 199
        boundIs(x, 0, 1, 1, 2);
        boundIs(x, 1, 0, 2, 199);
        x.tell(0, 99);
        boundIs(x, 0, 1, NO, NO);
        boundIs(x, 1, 0, NO, NO);
        edges.says("Terms 2: BOUND: a MARK of 0 of a PARTY without a seat in s is none of these");
        x = Scene.with("50,0/100,0/0,7");
        Scene.seats(x, 2, 2, 1);
        x.way(2);
        planIs(x, "2,0,0,0,0,0/2,0,0,0,0,0/0,1,0,0,0,0/0,0,0,0,0,0");
        // the next seat of 0 1 is a first, but WARD 1 has none of PARTY 1
        boundIs(x, 0, 1, 1, 4);
        boundIs(x, 0, 2, NO, NO);
        edges.says("Terms 2: BOUND: NO: w of one is 0");
        x = Scene.with("8,8/5,0");
        Scene.seats(x, 1, 2);
        x.least(0, 2);
        x.least(1, 1);
        planIs(x, "0,1,0,0,0,0/2,0,0,0,0,0/0,0,0,0,0,0/0,0,0,0,0,0");
        boundIs(x, 0, 1, 16, 5);
        x.vote(1, 0, 0);
        x.vote(1, 1, 5);
        x.least(0, 1);
        x.least(1, 2);
        planIs(x, "1,0,0,0,0,0/0,2,0,0,0,0/0,0,0,0,0,0/0,0,0,0,0,0");
        boundIs(x, 1, 0, 0, 1);
        x.least(0, 3);
        x.least(1, 0);
        planIs(x, "1,0,0,0,0,0/2,0,0,0,0,0/0,0,0,0,0,0/0,0,0,0,0,0");
        boundIs(x, 0, 1, NO, NO);
        edges.says("Terms 2: BOUND: v of 0 is 0 by 1");
        boundIs(x, 1, 0, 0, 1);
    }

    private static void greatestBounds() {
        edges.says("Terms 2: BOUND: of all PARTIES with a CELL in both, and a seat in s, the greatest");
        SeatHouse x = Scene.with("6,6,1/9,8,7");
        Scene.seats(x, 1, 3);
        x.least(0, 1);
        x.least(1, 2);
        x.least(2, 1);
        planIs(x, "0,1,0,0,0,0/1,1,1,0,0,0/0,0,0,0,0,0/0,0,0,0,0,0");
        // 6 by 9, 6 by 2 x 8, 1 by 7
        boundIs(x, 0, 1, 2, 3);
        edges.is("PARTY 1 alone has a seat in WARD 0: 8 by 2 x 6", x.bound(1, 0, 1), 3);
        edges.is("above", x.bound(1, 0, 0), 2);
        x.vote(0, 2, 5);
        // 5 by 7 is more than 2 by 3
        edges.is("the last is the greatest", x.bound(0, 1, 1), 7);
        edges.is("above", x.bound(0, 1, 0), 5);
    }

    private static void largeBounds() {
        // v q p' by w q' p is, in lowest terms, at most 100000 x 3069 each, so that none of the products is beyond a long
        edges.says("Terms 2: BOUND: the largest numbers aren't beyond a long");
        SeatHouse x = Scene.with("99991/99971");
        Scene.seats(x, 30, 30);
        x.way(5);
        x.tell(98, 99);
        // thirtieth: 99 x 29 and 98, the next: 99 x 30 and 98
        boundIs(x, 0, 1, 99991L * 2969 / common(99991L * 2969, 99971L * 3068),
                99971L * 3068 / common(99991L * 2969, 99971L * 3068));
        edges.says("Terms 2: BOUND: (each, in lowest terms, above times the other's below)");
        x = Scene.with("80000,79999/79998,79997");
        Scene.seats(x, 10, 10);
        x.way(5);
        x.tell(49, 50);
        edges.is("solved", x.solve() > 0 ? 1 : 0, 1);
        planIs(x, "5,5,0,0,0,0/5,5,0,0,0,0/0,0,0,0,0,0/0,0,0,0,0,0");
        // fifths have 249, sixths 299; 79999 by 79997 is more than 80000 by 79998, 79998 by 80000 than 79997 by 79999
        boundIs(x, 0, 1, 79999L * 249 / common(79999L * 249, 79997L * 299),
                79997L * 299 / common(79999L * 249, 79997L * 299));
        boundIs(x, 1, 0, 79998L * 249 / common(79998L * 249, 80000L * 299),
                80000L * 299 / common(79998L * 249, 80000L * 299));
    }

    private static long common(long one, long other) {
        return BigInteger.valueOf(one).gcd(BigInteger.valueOf(other)).longValueExact();
    }

    private static void judgedPlaces() {
        edges.says("32: NONE: row, what");
        for (int no : NO_WARD) {
            edges.keeps("row " + no, NONE, y -> y.judge(no, 3, 0));
            edges.keeps("row, what and place too, " + no, NONE, y -> y.judge(no, -1, 9));
        }
        for (int no : new int[] {-1, 9, LOW, HIGH}) {
            edges.keeps("what " + no, NONE, y -> y.judge(1, 3, no));
            edges.keeps("what, nothing in the ROW, " + no, NONE, y -> y.judge(3, 3, no));
        }
        edges.says("32: STATE: nothing is in the ROW");
        edges.keeps("nothing", STATE, y -> y.judge(3, 0, 0));
        edges.keeps("a row of 0", STATE, y -> y.judge(2, 0, 0));
        edges.says("32: STATE: (or the place is below 0)");
        SeatHouse x = Scene.with("0/1,10/10,1");
        Scene.seats(x, 0, 1, 1);
        x.row(0, 40);
        // of place -6 all that is there is as it should be
        Scene.setRow(x, 0, 0, 1, 0, 0, 0, 0, 1, 0);
        edges.is("place -6", x.judge(0, -6, 0), STATE);
        for (int no : new int[] {-1, LOW, LOW + 1}) {
            edges.keeps("place " + no, STATE, y -> y.judge(1, no, 0));
        }
        edges.says("32: STATE: it ends ahead of that");
        x = Scene.with("1,10/10,1");
        Scene.seats(x, 1, 1);
        x.row(0, 24);
        edges.is("laid", x.lay(0, 0), 24);
        edges.is("24 from 0", x.judge(0, 0, 0), -5);
        x.row(0, 23);
        edges.is("laid, all but the last 0", x.lay(0, 0), -13);
        edges.is("23 from 0", x.judge(0, 0, 0), STATE);
        x.row(0, 40);
        edges.is("laid", x.lay(0, 16), 24);
        edges.is("24 from 16", x.judge(0, 16, 0), -5);
        edges.is("laid, all but the last 0", x.lay(0, 17), -13);
        edges.is("23 from 17", x.judge(0, 17, 0), STATE);
        for (int no : new int[] {39, 40, 41, HIGH - 24, HIGH - 23, HIGH - 22, HIGH}) {
            edges.is("place " + no, x.judge(0, no, 0), STATE);
        }
        edges.keeps("what is asked for is in the ROW", -5, y -> y.judge(1, 3, 0));
        edges.keeps("it is not at the next place", STATE, y -> y.judge(1, 4, 0));
    }

    private static void judgedSums() {
        edges.says("Terms 3: JUDGED: none below 0");
        SeatHouse x = Scene.with("1,10/10,1");
        Scene.seats(x, 1, 1);
        x.row(0, 24);
        Scene.setRow(x, 0, 2, -1, 0, 0, 0, 0, -1, 2);
        edges.is("all sums are right", x.judge(0, 0, 0), STATE);
        Scene.setRow(x, 0, 1, 0, 0, 0, 0, 0, 0, 1, 0, 0, 0, 0, 0, 0, 1, -1);
        edges.is("without a CELL", x.judge(0, 0, 0), STATE);
        SeatHouse three = Scene.with("1,1,1/1,1,1");
        Scene.seats(three, 1, 2);
        three.row(0, 24);
        Scene.setRow(three, 0, -1, 1, 1, 0, 0, 0, 2, 0, 0);
        edges.is("the first alone", three.judge(0, 0, 0), STATE);
        Scene.setRow(three, 0, 1, 0, 0, 0, 0, 0, 0, 1, 1);
        edges.is("told well", three.judge(0, 0, 0), -5);
        Scene.setRow(x, 0, 1, 0, 0, 0, 0, 0, 0, 1, 0, 0, 0, 0, 0, 0, 0, 0);
        edges.is("told well", x.judge(0, 0, 0), 2);
        edges.says("Terms 3: JUDGED: all sums of WARDS are those of THE PLAN");
        Scene.setRow(x, 0, 1, 1, 0, 0, 0, 0, 0, 0);
        edges.is("2 and 0", x.judge(0, 0, 0), STATE);
        Scene.setRow(x, 0, 0, 0, 0, 0, 0, 0, 1, 1);
        edges.is("0 and 2", x.judge(0, 0, 0), STATE);
        edges.says("Terms 3: JUDGED: all sums of PARTIES are those of THE PLAN");
        Scene.setRow(x, 0, 1, 0, 0, 0, 0, 0, 1, 0);
        edges.is("2 and 0", x.judge(0, 0, 0), STATE);
        Scene.setRow(x, 0, 0, 1, 0, 0, 0, 0, 0, 1);
        edges.is("0 and 2", x.judge(0, 0, 0), STATE);
        Scene.setRow(x, 0, 0, 0, 0, 0, 0, 0, 0, 0);
        edges.is("none at all", x.judge(0, 0, 0), STATE);
        edges.says("Terms 3: JUDGED: all without a CELL are 0");
        Scene.setRow(x, 0, 1, 0, 0, 0, 0, 0, 0, 0, 0, 0, 0, 1);
        edges.is("of PARTY 5", x.judge(0, 0, 0), STATE);
        Scene.setRow(x, 0, 1, 0, 0, 0, 0, 0, 0, 0, 0, 0, 0, 0);
        x.set(0, 19, 1);
        edges.is("of WARD 3", x.judge(0, 0, 0), STATE);
        x.set(0, 7, 1);
        x.set(0, 19, 0);
        x.set(0, 23, 1);
        edges.is("the last of all", x.judge(0, 0, 0), STATE);
        edges.says("Terms 3: JUDGED: sums that would be right only wrapped around");
        x = Scene.with("1,1,1/1,1,1/1,1,1");
        Scene.seats(x, 1, 1, 1);
        x.row(0, 24);
        Scene.setRow(x, 0, HIGH, HIGH, 3, 0, 0, 0, 3, HIGH, HIGH, 0, 0, 0, HIGH, 3, HIGH);
        edges.is("2 to the 32nd and 1 each", x.judge(0, 0, 0), STATE);
    }

    private static void judgedPlans() {
        edges.says("32: STATE: THE PLAN can't be");
        for (int way : new int[] {3, 4, 6}) {
            edges.keeps("way " + way, STATE, y -> {
                int was = y.way(way);
                int answer = y.judge(1, 3, 0);
                y.way(was);
                return answer;
            });
        }
        edges.keeps(() -> busyWithSeats(0, 0, 0, 0), "H is 0", STATE, y -> y.judge(0, 3, 0));
        edges.keeps(() -> busyWithSeats(30, 30, 1, 0), "H is 61", STATE, y -> y.judge(0, 3, 0));
        SeatHouse x = new SeatHouse();
        x.row(0, 24);
        edges.is("H is 0, all told are 0", x.judge(0, 0, 0), STATE);
        x = Scene.with("1/1/1");
        Scene.seats(x, 30, 30, 1);
        x.row(0, 24);
        x.set(0, 0, 30);
        x.set(0, 6, 30);
        x.set(0, 12, 1);
        edges.is("H is 61, told as it would be", x.judge(0, 0, 0), STATE);
        x.seats(2, 0);
        x.set(0, 12, 0);
        edges.is("H is 60", x.judge(0, 0, 0), -5);
        x.least(0, 9);
        x.seats(0, 8);
        x.seats(1, 0);
        x.set(0, 0, 8);
        x.set(0, 6, 0);
        edges.is("its HOUSE can't be", x.judge(0, 0, 0), STATE);
        edges.says("32: (it need not be SOLVED)");
        x = rowsOf(100000, 100000, 100000, 100000);
        x.vote(0, 1, 99999);
        x.row(0, 24);
        edges.is("it is OVER", x.solve(), OVER);
        // seats of 0 in WARD 1, of 1 in WARD 0: less than straight
        Scene.setRow(x, 0, 0, 1, 0, 0, 0, 0, 1, 0, 0, 0, 0, 0, 0, 0, 1, 0, 0, 0, 0, 0, 0, 1);
        edges.is("a BETTER one ahead of OVER", x.judge(0, 0, 0), 2);
    }

    private static void judgedRings() {
        int[] straight = {1, 0, 0, 0, 0, 0, 0, 1, 0, 0, 0, 0, 0, 0, 1, 0, 0, 0, 0, 0, 0, 1};
        edges.says("32: what 0 k, 1 .. 4 its WARDS, 5 .. 8 its PARTIES (-5: k is less)");
        SeatHouse x = Scene.with("1,9/9,1");
        Scene.seats(x, 1, 1);
        ringIs(x, new int[] {1, 0, 0, 0, 0, 0, 0, 1}, 2, 0, 1, -5, -5, 1, 0, -5, -5);
        x = Scene.with("5,10/0,5,10/10,0,5");
        Scene.seats(x, 1, 1, 1);
        ringIs(x, new int[] {1, 0, 0, 0, 0, 0, 0, 1, 0, 0, 0, 0, 0, 0, 1}, 3, 0, 1, 2, -5, 1, 2, 0, -5);
        x = Scene.with("5,10/0,5,10/0,0,5,10/10,0,0,5");
        Scene.seats(x, 1, 1, 1, 1);
        ringIs(x, straight, 4, 0, 1, 2, 3, 1, 2, 3, 0);
        edges.says("32: of the last WARDS and PARTIES");
        x = new SeatHouse();
        x.vote(2, 4, 1);
        x.vote(2, 5, 9);
        x.vote(3, 4, 9);
        x.vote(3, 5, 1);
        Scene.seats(x, 0, 0, 1, 1);
        int[] last = new int[24];
        last[16] = 1;
        last[23] = 1;
        ringIs(x, last, 2, 2, 3, -5, -5, 5, 4, -5, -5);
        edges.says("32: -5: none is");
        x = Scene.with("9,1/1,9");
        Scene.seats(x, 1, 1);
        ringIs(x, new int[] {1, 0, 0, 0, 0, 0, 0, 1}, -5, -5, -5, -5, -5, -5, -5, -5, -5);
        x = Scene.with("5,5/5,5");
        Scene.seats(x, 1, 1);
        ringIs(x, new int[] {0, 1, 0, 0, 0, 0, 1, 0}, -5, -5, -5, -5, -5, -5, -5, -5, -5);
        edges.says("32: the told seats and THE PLAN stay as they are");
        x = Scene.with("1,9/9,1");
        Scene.seats(x, 1, 1);
        ringIs(x, new int[] {1, 0, 0, 0, 0, 0, 0, 1}, 2, 0, 1, -5, -5, 1, 0, -5, -5);
        edges.is("row, 0 0", x.get(0, 0), 1);
        edges.is("row, 0 1", x.get(0, 1), 0);
        planIs(x, "0,1,0,0,0,0/1,0,0,0,0,0/0,0,0,0,0,0/0,0,0,0,0,0");
    }

    private static void judgedOver() {
        edges.says("32: OVER");
        SeatHouse x = rowsOf(65536, 65536, 65536, 32768);
        int[] straight = {1, 0, 0, 0, 0, 0, 0, 1, 0, 0, 0, 0, 0, 0, 1, 0, 0, 0, 0, 0, 0, 1};
        ringIs(x, straight, OVER, OVER, OVER, OVER, OVER, OVER, OVER, OVER, OVER);
        edges.is("what 9", x.judge(0, 0, 9), NONE);
        edges.is("place 1", x.judge(0, 1, 0), STATE);
        x = rowsOf(80581, 99962, 82615, 13860);
        ringIs(x, straight, -5, -5, -5, -5, -5, -5, -5, -5, -5);
        edges.says("32: OVER, met ahead of a BETTER one");
        x = Scene.with("100000,100000/100000,100000/1,9");
        x.way(5);
        x.tell(99, 99);
        Scene.seats(x, 6, 6, 1);
        x.least(0, 7);
        x.least(1, 6);
        int[] seats = {6, 0, 0, 0, 0, 0, 0, 6, 0, 0, 0, 0, 1};
        ringIs(x, seats, OVER, OVER, OVER, OVER, OVER, OVER, OVER, OVER, OVER);
        x.vote(1, 0, 0);
        x.vote(1, 1, 0);
        x.vote(2, 0, 1);
        // WARDS 0, 1: 0 against 100000 x 0; WARDS 1, 2: seats without VOTES against more than 0
        edges.is("without it the BETTER one is found", x.judge(0, 0, 0) == OVER ? 1 : 0, 0);
    }

    private static void movedSeats() {
        edges.says("33: each WARD for itself, without LEASTS; amounts added up, by 2");
        SeatHouse x = Scene.with("10,9/10,9");
        Scene.seats(x, 1, 1);
        edges.is("0 would have both", x.moved(), 1);
        x.least(1, 2);
        edges.is("1 has both", x.moved(), 2);
        x.least(1, 0);
        x.least(0, 2);
        edges.is("0 has both", x.moved(), 0);
        edges.says("33: GIVEN its SEATS to PARTIES that are IN");
        x = Scene.with("10,9/10,9/10,9/10,9");
        Scene.seats(x, 1, 1, 1, 1);
        edges.is("both", x.moved(), 2);
        x.bar(474);
        edges.is("both, 36000 isn't below 474 x 76", x.in(), 1);
        edges.is("0 alone", x.moved(), 0);
        edges.says("33: by their VOTES there");
        x = Scene.with("9,1/1,9");
        Scene.seats(x, 1, 1);
        edges.is("as it is", x.moved(), 0);
        x.least(0, 2);
        edges.is("0 has both", x.moved(), 1);
        edges.says("33: WARDS with SEATS");
        x = Scene.with("9,1/1,9/9,1/1,9");
        Scene.seats(x, 0, 0, 1, 1);
        edges.is("two of four", x.moved(), 0);
        edges.says("33: as good ones: to the least");
        x = Scene.with("5,5/5,5");
        Scene.seats(x, 1, 1);
        edges.is("0 would have both", x.moved(), 1);
        edges.says("33: PRICES of no VOTES, FREE ones");
        x = Scene.with("5,5");
        Scene.seats(x, 0, 1, 1);
        edges.is("of as good ones (0 by 1) 0 would have both", x.moved(), 1);
        x.way(2);
        Scene.seats(x, 0, 2, 0);
        edges.is("1 and 1, all FREE", x.moved(), 0);
        x.vote(1, 0, 100);
        x.seats(1, 2);
        edges.is("100 and 0: 1 and 1, ahead of the second of 100", x.moved(), 0);
        edges.says("33: the most");
        x = Scene.with("100000,1/100000,1");
        Scene.seats(x, 30, 30);
        x.way(0);
        edges.is("0 has all, and would", x.moved(), 0);
        x.least(1, 9);
        edges.is("1 has 9, and wouldn't", x.moved(), 9);
    }

    private static void spelledPlans() {
        edges.says("34: THE PAPER becomes THE PLAN SPELLED (of each WARD 0 .. 3, 0 where there is no CELL): how many bytes");
        SeatHouse x = Scene.with("1/1");
        Scene.seats(x, 9, 0, 0, 9);
        edges.is("bytes", x.spellPlan(), 47);
        edges.is("paper", Scene.paperOf(x), "9,0,0,0,0,0/0,0,0,0,0,0/0,0,0,0,0,0/9,0,0,0,0,0");
        Scene.seats(x, 30, 10, 0, 10);
        edges.is("bytes of two figures", x.spellPlan(), 50);
        edges.is("paper", Scene.paperOf(x), "30,0,0,0,0,0/10,0,0,0,0,0/0,0,0,0,0,0/10,0,0,0,0,0");
        edges.is("told", x.told(7), 50);
        edges.is("the last byte", x.paper(49), '0');
        edges.is("behind it", x.paper(50), NONE);
        Scene.seats(x, 1, 0, 0, 0);
        edges.is("shorter again", x.spellPlan(), 47);
        edges.is("nothing of the longer one is left", x.paper(47), NONE);
        x = Scene.with("1,1,1,1,1,1");
        Scene.seats(x, 30, 30, 0, 0);
        edges.is("three of two figures each", x.spellPlan(), 53);
        edges.is("paper", Scene.paperOf(x), "10,10,10,0,0,0/0,0,0,10,10,10/0,0,0,0,0,0/0,0,0,0,0,0");
    }

    private static void askedChangesNothing() {
        edges.says("Answers: what is asked changes nothing but THE PAPER");
        SeatHouse x = Scene.busy();
        int rings = x.solve();
        int moved = x.moved();
        edges.keeps("solve", rings, y -> y.solve());
        edges.keeps("cell", x.cell(1, 1), y -> y.cell(1, 1));
        edges.keeps("bound", x.bound(1, 2, 0), y -> y.bound(1, 2, 0));
        edges.keeps("judge", -5, y -> y.judge(1, 3, 0));
        edges.keeps("moved", moved, y -> y.moved());
        edges.keepsAllButPaper(Scene::busy, "spellPlan", 47, y -> y.spellPlan());
        edges.keeps("judge of a worse one", 2, y -> {
            for (int i = 0; i < 24; i++) {
                y.set(1, 3 + i, STRAIGHT[i]);
            }
            int answer = y.judge(1, 3, 0);
            y.lay(1, 3);
            return answer;
        });
    }

    /** What busy's PLAN has BEGUN with: sums of 3, 4, 5, 2 and of 3, 5, 4, 1, 0, 1. */
    private static final int[] STRAIGHT = {3, 0, 0, 0, 0, 0, 0, 4, 0, 0, 0, 0, 0, 1, 4, 0, 0, 0, 0, 0, 0, 1, 0, 1};
}
