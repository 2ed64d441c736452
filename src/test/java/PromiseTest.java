/** For each promise of the document: ordinary inputs, edges and wrong inputs, with answers reckoned by hand (the plan of 200 rings: by Model). */
public final class PromiseTest {
    private static final long NO = Long.MIN_VALUE;
    private static final int LOW = Integer.MIN_VALUE;
    private static final int HIGH = Integer.MAX_VALUE;
    private static Due due = new Due("PromiseTest");
    private static String promise = "";

    public static void main(String[] args) {
        whatIsTold();
        tapes();
        houses();
        ordersOfSeats();
        comparedHouses();
        pricesAndSpans();
        quotas();
        changedVotes();
        papers();
        plans();
        longRings();
        tooLarge();
        bounds();
        movedSeats();
        rows();
        images();
        due.end();
    }

    private static void is(String call, long got, long want) {
        due.is(promise + ", " + call, got, want);
    }

    private static void houseIs(SeatHouse x, int h, String want) {
        String got = Scene.houseOf(x, h);
        is("house of " + h + " is " + got + ", not " + want, got.equals(want) ? 1 : 0, 1);
    }

    private static void paperIs(SeatHouse x, String want) {
        String got = Scene.paperOf(x);
        is("paper is " + got + ", not " + want, got.equals(want) ? 1 : 0, 1);
        is("bytes of the paper", x.told(7), want.length());
    }

    private static void whatIsTold() {
        promise = "1 a new object";
        SeatHouse x = new SeatHouse();
        for (int i = 0; i < 24; i++) {
            is("votes " + i, x.votes(i / 6, i % 6), 0);
        }
        is("in", x.in(), 0);
        is("told H", x.told(1), 0);
        is("a", x.told(4), 1);
        is("b", x.told(5), 2);
        for (int party = 0; party < 6; party++) {
            is("list of " + party, x.told(30 + party), party);
            is("least of " + party, x.told(20 + party), 0);
        }
        is("paper", x.paper(0), -1);
        is("row", x.get(0, 0), NO);

        promise = "2 vote";
        is("first", x.vote(0, 0, 5), 0);
        is("again", x.vote(0, 0, 100000), 5);
        is("last cell", x.vote(3, 5, 7), 0);
        is("ward -1", x.vote(-1, 0, 1), -1);
        is("ward 4, v bad too", x.vote(4, 0, -1), -1);
        is("party -1", x.vote(0, -1, 1), -1);
        is("party 6", x.vote(0, 6, 1), -1);
        is("v -1", x.vote(0, 0, -1), -2);
        is("v 100001", x.vote(0, 0, 100001), -2);
        is("far", x.vote(LOW, HIGH, HIGH), -1);
        is("nothing changed", x.vote(0, 0, 0), 100000);

        promise = "3 votes";
        x.vote(0, 0, 10);
        x.vote(0, 1, 20);
        x.vote(1, 0, 300);
        is("cell", x.votes(0, 1), 20);
        is("total", x.votes(-1, 0), 310);
        is("of a ward", x.votes(0, -1), 30);
        is("all", x.votes(-1, -1), 337);
        is("ward -2", x.votes(-2, 0), -1);
        is("ward 4", x.votes(4, -1), -1);
        is("party -2", x.votes(0, -2), -1);
        is("party 6", x.votes(-1, 6), -1);

        promise = "4 seats";
        is("first", x.seats(3, 30), 0);
        is("again", x.seats(3, 0), 30);
        is("ward", x.seats(-1, 31), -1);
        is("ward 4", x.seats(4, 3), -1);
        is("n 31", x.seats(0, 31), -2);
        is("n -1", x.seats(0, -1), -2);
        is("as it was", x.told(10), 0);

        promise = "5 least";
        is("first", x.least(5, 9), 0);
        is("again", x.least(5, 2), 9);
        is("party", x.least(6, 10), -1);
        is("party -1", x.least(-1, 0), -1);
        is("n 10", x.least(5, 10), -2);
        is("n -1", x.least(5, -1), -2);
        is("as it was", x.told(25), 2);

        promise = "6 join";
        is("first", x.join(5, 0), 5);
        is("again", x.join(5, 3), 0);
        is("party", x.join(6, 0), -1);
        is("party -1", x.join(-1, 0), -1);
        is("list", x.join(0, 6), -1);
        is("list -1", x.join(0, -1), -1);
        is("as it was", x.told(35), 3);

        promise = "7 bar";
        is("first", x.bar(500), 0);
        is("again", x.bar(3), 500);
        is("501", x.bar(501), -2);
        is("-1", x.bar(-1), -2);
        is("as it was", x.told(3), 3);

        promise = "8 way";
        is("first", x.way(6), 0);
        is("again", x.way(5), 6);
        is("7", x.way(7), -1);
        is("-1", x.way(-1), -1);
        is("as it was", x.told(2), 5);

        promise = "9 tell";
        is("0 by 1", x.tell(0, 1), 1);
        is("99 by 99", x.tell(99, 99), 1);
        is("a above b", x.tell(3, 2), -2);
        is("a -1", x.tell(-1, 2), -2);
        is("b 0", x.tell(0, 0), -2);
        is("b 100", x.tell(1, 100), -2);
        is("a 100", x.tell(100, 100), -2);
        is("a as it was", x.told(4), 99);
        is("b as it was", x.told(5), 99);

        promise = "35 told";
        is("all", x.told(0), 337);
        x.seats(1, 30);
        x.seats(2, 30);
        x.seats(3, 30);
        is("H above 60", x.told(1), 90);
        is("lists in", x.told(8), 1 | 2 | 8);
        is("wards", x.told(9), 14);
        is("seats of 3", x.told(13), 30);
        for (int what : new int[] {-1, 14, 19, 26, 29, 36, LOW, HIGH}) {
            is("told " + what, x.told(what), -1);
        }
    }

    private static void readIs(SeatHouse x, String text, int ward, int want) {
        Scene.feed(x, text);
        is("read \"" + text + "\" from " + ward, x.read(ward), want);
        is("tape behind it", x.told(6), 0);
    }

    private static void tapes() {
        promise = "10 feed";
        SeatHouse x = new SeatHouse();
        is("0", x.feed(0), -2);
        is("128", x.feed(128), -2);
        is("-1", x.feed(-1), -2);
        is("127", x.feed(127), 1);
        is("1", x.feed(1), 2);
        for (int n = 3; n <= 120; n++) {
            is("feed", x.feed(65), n);
        }
        is("full", x.feed(65), -4);
        is("full and bad", x.feed(0), -2);
        is("bytes", x.told(6), 120);

        promise = "11 clear";
        is("full", x.clear(), 120);
        is("empty", x.clear(), 0);
        is("fed again", x.feed(65), 1);

        promise = "12 read";
        is("no ward", x.read(4), -1);
        is("no ward below", x.read(-1), -1);
        is("the tape stays", x.clear(), 1);
        readIs(x, "1,2,3,4,5,6/7/8,9/100000,000000", 0, 11);
        is("others stay", x.votes(1, 1), 0);
        is("the sixth", x.votes(0, 5), 6);
        is("the most", x.votes(3, 0), 100000);
        readIs(x, "50", 0, 1);
        is("second stays", x.votes(0, 1), 2);
        readIs(x, "", 0, -100);
        readIs(x, "7/8/9", 1, 3);
        is("from ward 1", x.votes(3, 0), 9);
        readIs(x, "1/2/3", 2, -104);
        is("a fault does nothing", x.votes(2, 0), 8);
        readIs(x, "1/", 3, -102);
        readIs(x, "1/", 0, -102);
        readIs(x, "1,", 0, -102);
        readIs(x, "/1", 0, -100);
        readIs(x, ",1", 0, -100);
        readIs(x, "1,,2", 0, -102);
        readIs(x, "1 ", 0, -101);
        readIs(x, "1,-2", 0, -102);
        readIs(x, "100001", 0, -100);
        readIs(x, "3,100001,x", 0, -102);
        readIs(x, "999999", 0, -100);
        readIs(x, "0000001", 0, -106);
        readIs(x, "1000000", 0, -106);
        readIs(x, "1234567", 0, -100);
        readIs(x, "000001", 0, 1);
        readIs(x, "1,2,3,4,5,6,", 0, -111);
        readIs(x, "1,2,3,4,5,6/", 0, -112);
        readIs(x, "1,2,3,4,5,6/1", 0, 7);
        readIs(x, "1a", 0, -101);
        is("and so it stands", x.votes(-1, -1), 21 + 1 + 8 + 9 + 9);
    }

    private static void houses() {
        promise = "13 in";
        SeatHouse x = Scene.with("5,0,3,2");
        is("with votes", x.in(), 13);
        x.bar(200);
        is("at the bar", x.in(), 13);
        x.bar(201);
        is("above it", x.in(), 5);
        x.bar(301);
        is("one", x.in(), 1);
        is("lists", x.told(8), 1);
        x.bar(500);
        is("half of all", x.in(), 1);
        x.vote(3, 1, 1);
        is("none", x.in(), 0);

        promise = "14 house";
        x = Scene.with("50,20,20/3,4,3");
        String[] want = {"4,2,1,0,0,0", "3,2,2,0,0,0", "3,2,2,0,0,0", "3,2,2,0,0,0", "3,2,2,0,0,0",
            "3,2,2,0,0,0", "4,2,1,0,0,0"};
        for (int way = 0; way < 7; way++) {
            x.way(way);
            houseIs(x, 7, want[way]);
            houseIs(x, 0, "0,0,0,0,0,0");
        }
        x.way(5);
        x.tell(1, 1);
        houseIs(x, 7, want[0]);
        x.tell(0, 9);
        houseIs(x, 2, "1,1,0,0,0,0");
        is("party, h bad too", x.house(61, 6), -1);
        is("party -1", x.house(7, -1), -1);
        is("h 61", x.house(61, 0), -2);
        is("h -1", x.house(-1, 0), -2);
        is("h 60", x.house(60, 3), 0);
        x.bar(400);
        x.way(0);
        houseIs(x, 7, "7,0,0,0,0,0");
        x.least(1, 9);
        houseIs(x, 7, "7,0,0,0,0,0");
        x.least(0, 8);
        is("leasts are more", x.house(7, 5), -3);
        x.vote(2, 3, 60);
        is("nobody is in", x.house(1, 0), -3);
        is("nobody is in, nothing to give", x.house(0, 0), 0);

        promise = "14 house by rests";
        x = Scene.with("47,16,15,12,6,4");
        x.way(6);
        houseIs(x, 10, "5,2,1,1,1,0");
        x.least(5, 1);
        houseIs(x, 10, "5,2,1,1,0,1");
        x.least(5, 3);
        houseIs(x, 10, "4,1,1,1,0,3");
        x.least(5, 4);
        is("leasts and quotas are more", x.house(10, 0), -3);
        x.least(5, 0);
        x.least(0, 4);
        x.least(1, 1);
        houseIs(x, 10, "5,2,1,1,1,0");
        x = Scene.with("10,10,10");
        x.way(6);
        houseIs(x, 4, "2,1,1,0,0,0");
        houseIs(x, 5, "2,2,1,0,0,0");

        promise = "15 list";
        x = Scene.with("50,20,20/3,4,3");
        x.join(1, 4);
        x.join(2, 4);
        is("joined", x.list(7, 4), 3);
        is("alone", x.list(7, 0), 4);
        is("nobody's", x.list(7, 1), 0);
        houseIs(x, 7, "4,2,1,0,0,0");
        is("at 3", x.list(3, 4), 1);
        houseIs(x, 3, "2,1,0,0,0,0");
        x.least(2, 2);
        houseIs(x, 5, "3,0,2,0,0,0");
        is("no list, h bad too", x.list(61, 6), -1);
        is("list -1", x.list(3, -1), -1);
        is("h", x.list(61, 0), -2);
        is("it can't be", x.list(1, 0), -3);
        x.way(6);
        x.least(2, 0);
        x.least(1, 2);
        houseIs(x, 3, "1,2,0,0,0,0");
        x.least(1, 3);
        is("rests of lists", x.list(3, 4), -3);
        x.least(1, 1);
        is("rests of lists", x.list(3, 4), 1);
        houseIs(x, 3, "2,1,0,0,0,0");

        promise = "14 house, a list's rests can't be";
        x = Scene.with("30,20,50");
        x.way(6);
        x.join(1, 0);
        x.least(1, 2);
        is("list 0 has as many as its leasts, but not its parties", x.list(4, 0), -3);
        is("seats of 1", x.house(4, 1), -3);
    }

    private static void ordersOfSeats() {
        promise = "16 given";
        SeatHouse x = Scene.with("50,20,20/3,4,3");
        int[] order = {0, 0, 1, 2, 0, 0, 1};
        for (int i = 0; i < 7; i++) {
            is("seat " + i, x.given(7, i), order[i]);
        }
        is("i 7", x.given(7, 7), -1);
        is("i -1", x.given(7, -1), -1);
        is("h and i", x.given(61, -1), -2);
        x.least(1, 2);
        is("behind the leasts", x.given(7, 2), 2);
        is("i 5", x.given(7, 5), -1);
        is("it can't be, i", x.given(1, 60), -3);
        x.way(6);
        is("rests", x.given(7, 0), -3);
        is("rests, h", x.given(-1, 0), -2);
        x.least(1, 0);
        x.way(2);
        is("free: most votes first", x.given(3, 0), 0);
        is("free", x.given(3, 1), 1);
        is("free", x.given(3, 2), 2);
        is("behind the free ones", x.given(4, 3), 0);

        promise = "17 tie";
        x = Scene.with("10,10,5,10");
        is("first", x.tie(1), 10);
        is("second", x.tie(2), 8);
        is("third", x.tie(3), 0);
        is("half of it", x.tie(4), 2 | 4 | 8);
        is("none went", x.tie(0), 0);
        x.least(0, 3);
        is("leasts alone", x.tie(3), 0);
        is("behind leasts", x.tie(4), 8);
        is("it can't be", x.tie(2), -3);
        is("h", x.tie(61), -2);
        x.least(0, 0);
        x.way(2);
        is("free", x.tie(1), 10);
        is("free, less votes", x.tie(4), 0);
        x.way(3);
        is("root", x.tie(5), 10);
        x.join(1, 0);
        is("lists", x.tie(1), 0);
        x.way(6);
        is("rests", x.tie(1), -3);
        x = Scene.with("12,6");
        x.way(3);
        is("root: 12 by root 6 is above 6 by root 2", x.tie(4), 0);
        is("so 0 has it", x.given(4, 3), 0);
        x = Scene.with("100000,99999/100000,99999/100000,99999/100000,99999");
        is("near", x.tie(1), 0);
        is("nearer", x.tie(59), 0);
    }

    private static void comparedHouses() {
        promise = "18 differ";
        SeatHouse x = Scene.with("50,20,20/3,4,3");
        x.way(6);
        is("down, half", x.differ(7, 0, 1), 1);
        is("down, rests", x.differ(7, 0, 6), 0);
        is("itself", x.differ(7, 3, 3), 0);
        is("one, h bad too", x.differ(61, 7, 0), -1);
        is("other", x.differ(7, 0, -1), -1);
        is("h", x.differ(61, 0, 1), -2);
        x.least(0, 7);
        is("one can't be", x.differ(7, 6, 0), -3);
        is("the other can't be", x.differ(7, 0, 6), -3);
        is("both can", x.differ(7, 0, 1), 0);
        is("way stays", x.told(2), 6);

        promise = "24 alike";
        is("it can't be", x.alike(7), -3);
        x.way(1);
        is("all but rests", x.alike(7), 63);
        x.least(0, 0);
        is("by half", x.alike(7), 62);
        x.way(0);
        is("by down", x.alike(7), 65);
        x.tell(1, 1);
        is("told is as down", x.alike(7), 97);
        is("h", x.alike(61), -2);
        is("h below", x.alike(-1), -2);
        is("h 0", x.alike(0), 127);

        promise = "19 loses";
        x = Scene.with("6,6,2");
        x.way(6);
        is("first", x.loses(0, 60), 4);
        is("from 3", x.loses(3, 60), 4);
        is("from 4", x.loses(4, 60), 11);
        is("to 10", x.loses(4, 10), -5);
        is("to 11", x.loses(10, 11), 11);
        is("no step", x.loses(11, 11), -5);
        is("a", x.loses(-1, 5), -2);
        is("b", x.loses(5, 61), -2);
        is("b below a", x.loses(5, 4), -2);
        x.vote(0, 0, 2);
        x.vote(0, 2, 6);
        is("party 0 loses", x.loses(4, 60), 11);
        is("party 0 is it", x.loser(11), 0);
        x.vote(0, 0, 6);
        x.vote(0, 2, 2);
        x.way(0);
        is("divisors never", x.loses(0, 60), -5);
        x.way(6);
        x.least(0, 2);
        is("with its least 0 leaves 2 none at 3", x.loses(0, 60), 11);

        promise = "20 loser";
        is("2 has none to lose", x.loser(4), -5);
        x.least(0, 0);
        is("at 4", x.loser(4), 2);
        is("at 11", x.loser(11), 2);
        is("at 5", x.loser(5), -5);
        is("h 0", x.loser(0), -2);
        is("h 61", x.loser(61), -2);
        is("h 1", x.loser(1), -5);
        is("h 60", x.loser(60), 2);
    }

    private static void priceIs(SeatHouse x, int party, int n, long above, long below) {
        is("price " + party + " " + n, x.price(party, n, 0), above);
        is("price " + party + " " + n + " below", x.price(party, n, 1), below);
    }

    private static void spanIs(SeatHouse x, int h, int side, long above, long below) {
        is("span " + h + " " + side, x.span(h, side, 0), above);
        is("span " + h + " " + side + " below", x.span(h, side, 1), below);
    }

    private static void pricesAndSpans() {
        promise = "21 price";
        SeatHouse x = Scene.with("50,20,20/3,4,3");
        priceIs(x, 1, 6, 4, 1);
        priceIs(x, 0, 60, 53, 60);
        priceIs(x, 5, 7, 0, 1);
        x.way(1);
        priceIs(x, 1, 2, 16, 1);
        x.way(2);
        priceIs(x, 0, 1, NO, NO);
        priceIs(x, 0, 2, 53, 1);
        x.way(3);
        priceIs(x, 0, 1, NO, NO);
        priceIs(x, 0, 3, 2809, 6);
        priceIs(x, 1, 3, 96, 1);
        x.way(4);
        priceIs(x, 0, 1, NO, NO);
        priceIs(x, 0, 3, 265, 12);
        x.way(5);
        x.tell(1, 3);
        priceIs(x, 0, 2, 159, 4);
        x.tell(0, 3);
        priceIs(x, 0, 1, NO, NO);
        x.way(6);
        priceIs(x, 0, 2, NO, NO);
        x.way(0);
        is("party", x.price(6, 1, 0), NO);
        is("party -1", x.price(-1, 1, 0), NO);
        is("n 0", x.price(0, 0, 0), NO);
        is("n 61", x.price(0, 61, 0), NO);
        is("part 2", x.price(0, 1, 2), NO);
        is("part -1", x.price(0, 1, -1), NO);
        x.bar(500);
        priceIs(x, 2, 1, 23, 1);
        x = Scene.with("100000/100000/100000/100000");
        x.way(3);
        priceIs(x, 0, 60, 8000000000L, 177);

        promise = "22 span";
        x = Scene.with("50,20,20/3,4,3");
        spanIs(x, 7, 0, 23, 2);
        spanIs(x, 7, 1, 12, 1);
        spanIs(x, 0, 0, 53, 1);
        spanIs(x, 0, 1, NO, NO);
        x.least(1, 2);
        spanIs(x, 7, 1, 53, 4);
        spanIs(x, 2, 1, NO, NO);
        spanIs(x, 1, 0, NO, NO);
        x.least(1, 0);
        x.way(2);
        spanIs(x, 2, 0, NO, NO);
        spanIs(x, 3, 0, 53, 1);
        spanIs(x, 3, 1, NO, NO);
        spanIs(x, 4, 1, 53, 1);
        x.way(4);
        spanIs(x, 3, 0, 159, 4);
        x.way(3);
        spanIs(x, 4, 1, NO, NO);
        x.way(6);
        spanIs(x, 4, 1, NO, NO);
        x.way(0);
        spanIs(x, 61, 0, NO, NO);
        spanIs(x, -1, 0, NO, NO);
        spanIs(x, 7, 2, NO, NO);
        spanIs(x, 7, -1, NO, NO);
        is("part", x.span(7, 0, 2), NO);
        x.join(2, 1);
        spanIs(x, 7, 0, 47, 4);
        spanIs(x, 7, 1, 53, 4);
        x.bar(400);
        spanIs(x, 60, 0, 53, 61);
        x = Scene.with("7");
        x.way(1);
        spanIs(x, 60, 0, 14, 121);
    }

    private static void quotas() {
        promise = "23 quota";
        SeatHouse x = Scene.with("80,7,7,6");
        is("down, above", x.quota(10), 1);
        x.way(2);
        is("up, below", x.quota(10), 1);
        x.way(6);
        is("rests", x.quota(10), 0);
        x.least(1, 2);
        is("least", x.quota(10), 2);
        x.least(1, 1);
        is("least as cut upward", x.quota(10), 0);
        x.bar(70);
        x.least(1, 0);
        is("of those in: 94 in all", x.quota(47), 0);
        is("h", x.quota(61), -2);
        is("h -1", x.quota(-1), -2);
        x.least(0, 9);
        is("it can't be", x.quota(8), -3);
        is("nobody in, none to give", new SeatHouse().quota(0), 0);
    }

    private static void changedVotes() {
        promise = "25 would";
        SeatHouse x = Scene.with("50,20,20/3,4,3");
        is("more", x.would(0, 2, 24, 7), 2);
        is("as now", x.would(0, 2, 20, 7), 1);
        is("none", x.would(0, 2, 0, 7), 0);
        is("the votes stay", x.votes(0, 2), 20);
        is("ward, v bad too", x.would(4, 0, -1, 7), -1);
        is("party", x.would(0, 6, 1, 7), -1);
        is("v", x.would(0, 0, 100001, 7), -2);
        is("v -1", x.would(0, 0, -1, 7), -2);
        is("h", x.would(0, 0, 1, 61), -2);
        x.bar(100);
        x.least(3, 2);
        is("over the bar with a least", x.would(3, 3, 12, 7), 2);
        is("below it", x.would(3, 3, 11, 7), 0);
        is("it can't be", x.would(3, 3, 12, 1), -3);
        is("nobody in", new SeatHouse().would(0, 0, 0, 1), -3);
        is("one", new SeatHouse().would(0, 0, 1, 1), 1);

        promise = "26 needs";
        x = Scene.with("50,20,20/3,4,3");
        is("past a tie", x.needs(0, 2, 7), 2);
        is("a tie will do", x.needs(1, 0, 7), 7);
        is("the votes stay", x.votes(-1, -1), 100);
        is("from nothing", x.needs(3, 5, 7), 13);
        is("h 0", x.needs(3, 5, 0), -5);
        is("ward, h bad too", x.needs(4, 5, 61), -1);
        is("party", x.needs(0, 6, 7), -1);
        is("h", x.needs(0, 0, 61), -2);
        x.least(0, 9);
        is("it can't be", x.needs(0, 0, 8), -3);
        x.least(0, 0);
        x.bar(100);
        is("the bar", x.needs(3, 5, 7), 13);
        x.bar(200);
        is("a higher bar", x.needs(3, 5, 7), 25);
        x.least(5, 8);
        is("one that can't be is none", x.needs(3, 5, 7), -5);
        x = Scene.with("100000,100000,98000/0,0,1700");
        is("300", x.needs(1, 2, 1), -5);
        x.vote(1, 2, 1701);
        is("300 will do", x.needs(1, 2, 1), 300);
        x.vote(1, 2, 99999);
        x.vote(0, 2, 0);
        is("not above 100000", x.needs(1, 2, 1), -5);
        x.vote(0, 2, 1);
        is("100000 will do", x.needs(1, 2, 1), 1);
        x.vote(1, 2, 100000);
        x.vote(0, 2, 0);
        is("none above 100000", x.needs(1, 2, 1), -5);
    }

    private static void papers() {
        promise = "27 spell";
        SeatHouse x = Scene.with("50,20,20/3,4,3");
        paperIs(x, "");
        is("spelled", x.spell(7), 11);
        paperIs(x, "4,2,1,0,0,0");
        is("two figures", x.spell(60), 14);
        paperIs(x, Scene.houseOf(x, 60));
        is("h", x.spell(61), -2);
        x.least(0, 9);
        is("it can't be", x.spell(1), -3);
        is("the paper stays", x.told(7), 14);

        promise = "28 paper";
        x.least(0, 0);
        x.spell(7);
        is("byte 0", x.paper(0), 52);
        is("byte 1", x.paper(1), 44);
        is("byte 10", x.paper(10), 48);
        is("byte 11", x.paper(11), -1);
        is("byte -1", x.paper(-1), -1);
        is("far", x.paper(HIGH), -1);
        is("far below", x.paper(LOW), -1);
    }

    private static void plans() {
        promise = "29 solve";
        SeatHouse x = Scene.with("1,10/10,1");
        is("no seats", x.solve(), -3);
        Scene.seats(x, 1, 1);
        is("one ring", x.solve(), 1);
        promise = "30 cell";
        is("cell 0 0", x.cell(0, 0), 0);
        is("cell 0 1", x.cell(0, 1), 1);
        is("cell 1 0", x.cell(1, 0), 1);
        is("cell 1 1", x.cell(1, 1), 0);
        is("no cell", x.cell(3, 5), 0);
        is("ward", x.cell(4, 0), -1);
        is("party", x.cell(0, 6), -1);
        is("ward -1", x.cell(-1, 0), -1);
        is("party -1", x.cell(0, -1), -1);

        promise = "34 spellPlan";
        is("bytes", x.spellPlan(), 47);
        paperIs(x, "0,1,0,0,0,0/1,0,0,0,0,0/0,0,0,0,0,0/0,0,0,0,0,0");

        promise = "32 judge";
        is("no row", x.judge(4, 0, 0), -1);
        is("row -1", x.judge(-1, 0, 0), -1);
        is("nothing there", x.judge(0, 0, 0), -3);
        is("nothing there, what 9", x.judge(0, 0, 9), -1);
        x.row(0, 25);
        Scene.setRow(x, 0, 1, 0, 0, 0, 0, 0, 0, 1);
        int[] ring = {2, 0, 1, -5, -5, 1, 0, -5, -5};
        for (int what = 0; what < 9; what++) {
            is("what " + what, x.judge(0, 0, what), ring[what]);
        }
        is("what 9", x.judge(0, 0, 9), -1);
        is("what -1", x.judge(0, 0, -1), -1);
        is("place 1: other sums", x.judge(0, 1, 0), -3);
        is("place 2: it ends", x.judge(0, 2, 0), -3);
        is("place -1", x.judge(0, -1, 0), -3);
        is("far", x.judge(0, HIGH, 0), -3);
        Scene.setRow(x, 0, 0, 1, 0, 0, 0, 0, 1, 0);
        for (int what = 0; what < 9; what++) {
            is("none is better, what " + what, x.judge(0, 0, what), -5);
        }
        Scene.setRow(x, 0, 0, 1, 0, 0, 0, 0, 0, 1);
        is("sums of parties", x.judge(0, 0, 0), -3);
        Scene.setRow(x, 0, 2, -1, 0, 0, 0, 0, -1, 2);
        is("below 0", x.judge(0, 0, 0), -3);
        Scene.setRow(x, 0, 1, 0, 0, 0, 0, 0, 0, 0, 1);
        is("no cell of party 2", x.judge(0, 0, 0), -3);
        Scene.setRow(x, 0, 1, 0, 0, 0, 0, 0, 0, 0, 0, 0, 0, 0, 0, 1);
        is("no cell of ward 2", x.judge(0, 0, 0), -3);
        Scene.setRow(x, 0, HIGH, HIGH, 3, 0, 0, 0, 0, 1, 0, 0, 0, 0, 0, 0);
        is("sums beyond an int", x.judge(0, 0, 0), -3);
        Scene.setRow(x, 0, 0, 1, 0, 0, 0, 0, 1, 0);
        x.way(3);
        is("the plan can't be", x.judge(0, 0, 0), -3);

        promise = "29 solve, states";
        for (int way : new int[] {3, 4, 6}) {
            x.way(way);
            is("way " + way, x.solve(), -3);
            is("cell, way " + way, x.cell(0, 0), -3);
            is("spellPlan, way " + way, x.spellPlan(), -3);
            is("moved, way " + way, x.moved(), -3);
            is("bound, way " + way, x.bound(0, 1, 0), NO);
        }
        for (int way : new int[] {0, 1, 2, 5}) {
            x.way(way);
            is("way " + way, x.solve(), way == 2 ? 0 : 1);
        }
        x.way(0);
        is("a plan is made anew", x.cell(0, 0), 0);
        x.vote(0, 0, 11);
        x.vote(1, 1, 11);
        is("after vote", x.cell(0, 0), 1);
        x.seats(0, 30);
        x.seats(1, 30);
        is("after seats: H is 60", x.solve() >= 0 ? 1 : 0, 1);
        x.seats(2, 1);
        is("H is 61", x.solve(), -3);
        is("cell of none, H is 61", x.cell(0, 6), -1);
        x.seats(2, 0);
        x.seats(0, 2);
        x.seats(1, 1);
        x.least(1, 3);
        is("after least", x.cell(0, 1), 2);
        x.least(0, 1);
        is("leasts are more", x.solve(), -3);
        x.least(0, 0);
        x.least(1, 0);
        x.bar(500);
        is("after bar", x.cell(0, 0) + x.cell(1, 0), 2);
        x.vote(0, 1, 0);
        is("after vote again, party 1 is out", x.cell(0, 0) + x.cell(1, 0), 3);

        x = Scene.with("4,3/1,3");
        x.seats(1, 1);
        is("H is 1", x.solve(), 0);
        is("of the greater total", x.cell(1, 1), 1);
        x.vote(0, 2, 2);
        is("three parties", x.cell(1, 1), 1);
        x.join(2, 0);
        is("after join", x.cell(1, 0), 1);

        promise = "29 solve, 200 rings";
        x = Scene.with("21,6,57,43,56,163/29,19,20,12,78,67/75,61,20,0,7,123/38,88,48,62,50,6");
        Scene.seats(x, 15, 15, 15, 15);
        x.way(1);
        is("200 at most", x.solve(), 200);
        is("where the 200th leaves it", x.spellPlan(), 47);
        paperIs(x, "1,0,3,2,2,7/2,1,1,1,5,5/4,4,1,0,0,6/1,4,3,3,3,1");
        x.row(2, 40);
        is("laid", x.lay(2, 16), 24);
        is("a better one is left", x.judge(2, 16, 0), 2);
    }

    private static void longRings() {
        promise = "32 judge, a ring of 3";
        SeatHouse x = Scene.with("10,0,5/5,10,0/0,5,10");
        Scene.seats(x, 1, 1, 1);
        x.row(3, 24);
        Scene.setRow(x, 3, 0, 0, 1, 0, 0, 0, 1, 0, 0, 0, 0, 0, 0, 1, 0);
        int[] ring = {3, 0, 1, 2, -5, 0, 1, 2, -5};
        for (int what = 0; what < 9; what++) {
            is("what " + what, x.judge(3, 0, what), ring[what]);
        }
        is("begun well", x.solve(), 0);
        promise = "29 solve, a ring of 3";
        x = Scene.with("5,0,10/10,5,0/0,10,5");
        Scene.seats(x, 1, 1, 1);
        is("one", x.solve(), 1);
        is("cell", x.cell(0, 2) + x.cell(1, 0) + x.cell(2, 1), 3);
        x.seats(3, 0);

        promise = "32 judge, a ring of 4";
        x = Scene.with("0,0,10,0,0,5/0,0,5,10,0,0/0,0,0,5,10,0/0,0,0,0,5,10");
        Scene.seats(x, 1, 1, 1, 1);
        x.row(0, 24);
        Scene.setRow(x, 0, 0, 0, 0, 0, 0, 1, 0, 0, 1, 0, 0, 0, 0, 0, 0, 1, 0, 0, 0, 0, 0, 0, 1);
        int[] longest = {4, 0, 1, 2, 3, 2, 3, 4, 5};
        for (int what = 0; what < 9; what++) {
            is("what " + what, x.judge(0, 0, what), longest[what]);
        }
        is("begun well", x.solve(), 0);
    }

    private static void tooLarge() {
        promise = "29 solve, over";
        SeatHouse x = Scene.with("100000,50000,50000,50000/50000,100000,50000,50000"
                + "/50000,50000,100000,50000/50000,50000,50000,100000");
        Scene.seats(x, 1, 1, 1, 1);
        is("solve", x.solve(), -6);
        is("cell", x.cell(3, 3), -6);
        is("cell of none", x.cell(3, 6), -1);
        is("moved", x.moved(), -6);
        is("spellPlan", x.spellPlan(), -6);
        is("no paper", x.told(7), 0);
        is("bound", x.bound(0, 1, 0), NO);
        is("lay, nothing there", x.lay(0, 0), -11);
        x.row(0, 24);
        is("lay", x.lay(0, -1), -6);
        promise = "32 judge, over";
        Scene.setRow(x, 0, 1, 0, 0, 0, 0, 0, 0, 1, 0, 0, 0, 0, 0, 0, 1, 0, 0, 0, 0, 0, 0, 1);
        is("as begun", x.judge(0, 0, 0), -6);
        is("what 4", x.judge(0, 0, 4), -6);
        Scene.setRow(x, 0, 0, 1, 0, 0, 0, 0, 1, 0);
        int[] ring = {2, 0, 1, -5, -5, 0, 1, -5, -5};
        for (int what = 0; what < 9; what++) {
            is("a better one ahead of it, what " + what, x.judge(0, 0, what), ring[what]);
        }
        promise = "29 solve, over ahead of a 0";
        x = Scene.with("100000,100000,100000,100000/100000,100000,100000,100000"
                + "/100000,100000,100000,100000/100000,100000,100000,100000");
        Scene.seats(x, 1, 1, 1, 1);
        x.way(2);
        is("marks of 0 come too late", x.solve(), -6);
        x.vote(0, 1, 0);
        x.vote(1, 0, 0);
        Scene.seats(x, 1, 1, 0, 0);
        is("two wards", x.solve(), 0);

        promise = "29 solve, over by the order of marks";
        x = Scene.with("50000,50000,50000,50000/50000,50000,50000,50000/50000,50000,50000,50000/50000,50000,50000,50000");
        Scene.seats(x, 1, 1, 1, 1);
        x.way(2);
        is("6250000000000000000 times 0", x.solve(), 0);
        Scene.seats(x, 3, 1, 1, 1);
        x.least(0, 3);
        is("times 2, then 0: only rings that begin with ward 1 or more", x.solve(), -6);
        x = Scene.with("100000,100000,100000/100000,100000,100000/100000,100000,100000");
        Scene.seats(x, 1, 1, 1);
        x.way(5);
        x.tell(0, 20);
        is("8000000000000000000 times 0", x.solve(), 0);
        x.tell(0, 21);
        is("9261000000000000000 is beyond ahead of the 0", x.solve(), -6);
    }

    private static void boundIs(SeatHouse x, int r, int s, long above, long below) {
        is("bound " + r + " " + s, x.bound(r, s, 0), above);
        is("bound " + r + " " + s + " below", x.bound(r, s, 1), below);
    }

    private static void bounds() {
        promise = "31 bound";
        SeatHouse x = Scene.with("10,3,6/4,12,18/1,1,1");
        x.vote(2, 0, 0);
        x.vote(2, 1, 0);
        x.vote(2, 2, 0);
        boundIs(x, 0, 1, NO, NO);
        Scene.seats(x, 1, 2);
        is("solved", x.solve(), 0);
        boundIs(x, 0, 1, 1, 3);
        boundIs(x, 1, 0, 2, 5);
        boundIs(x, 0, 0, NO, NO);
        boundIs(x, 0, 2, NO, NO);
        boundIs(x, 2, 0, NO, NO);
        boundIs(x, 4, 0, NO, NO);
        boundIs(x, 0, -1, NO, NO);
        is("part 2", x.bound(0, 1, 2), NO);
        is("part -1", x.bound(0, 1, -1), NO);
        x.way(1);
        boundIs(x, 0, 1, 1, 3);
        x.way(5);
        x.tell(1, 3);
        boundIs(x, 0, 1, 1, 3);
        x.way(2);
        boundIs(x, 0, 1, NO, NO);
        x.way(0);
        x.vote(0, 1, 0);
        x.vote(0, 2, 0);
        is("solved likewise", x.solve(), 0);
        boundIs(x, 0, 1, 0, 1);

        promise = "31 bound, seats where there are no votes";
        x = Scene.with("5,0/5,0");
        x.vote(0, 1, 8);
        Scene.seats(x, 1, 1);
        x.least(1, 2);
        is("solved", x.solve(), 0);
        is("a seat without votes", x.cell(1, 1), 1);
        boundIs(x, 0, 1, NO, NO);
        boundIs(x, 1, 0, 0, 1);
        x.vote(1, 1, 4);
        boundIs(x, 0, 1, 1, 1);
        boundIs(x, 1, 0, 1, 4);
    }

    private static void movedSeats() {
        promise = "33 moved";
        SeatHouse x = Scene.with("10,9/10,9");
        is("no plan", x.moved(), -3);
        Scene.seats(x, 1, 1);
        is("one", x.moved(), 1);
        x.least(1, 2);
        is("without leasts", x.moved(), 2);
        x.least(1, 0);
        x.bar(480);
        is("those that are in", x.moved(), 0);
        x = Scene.with("10,10");
        Scene.seats(x, 1, 1);
        is("a ward without votes", x.moved(), 1);
        x.way(2);
        Scene.seats(x, 2, 2);
        is("free seats without votes", x.moved(), 2);
    }

    private static void rows() {
        promise = "36 row";
        SeatHouse x = new SeatHouse();
        is("row 4, n bad too", x.row(4, 41), -1);
        is("row -1", x.row(-1, 1), -1);
        is("n 41", x.row(0, 41), -2);
        is("n -1", x.row(0, -1), -14);
        is("far below", x.row(0, LOW), -14);
        is("still nothing", x.set(0, 0, 1), -11);
        is("n 0", x.row(0, 0), 1);
        is("no place", x.set(0, 0, 1), -13);
        is("n 40", x.row(0, 40), 1);

        promise = "37 set";
        is("last", x.set(0, 39, LOW), 1);
        is("place 40", x.set(0, 40, 1), -13);
        is("place -1", x.set(0, -1, 1), -13);
        is("row", x.set(4, 0, 1), -1);
        is("row -1", x.set(-1, 0, 1), -1);
        is("nothing", x.set(3, -1, 1), -11);

        promise = "38 get";
        is("last", x.get(0, 39), LOW);
        is("first", x.get(0, 0), 0);
        is("place 40", x.get(0, 40), NO);
        is("place -1", x.get(0, -1), NO);
        is("row 4", x.get(4, 0), NO);
        is("row -1", x.get(-1, 0), NO);
        is("nothing", x.get(3, 0), NO);
        x.row(0, 40);
        is("all 0 again", x.get(0, 39), 0);
        x.set(0, 30, 7);
        x.row(0, 31);
        is("0 in a shorter one", x.get(0, 30), 0);
        is("shorter", x.get(0, 31), NO);

        promise = "39 lay, all of a row";
        x = Scene.with("1,10/10,1");
        Scene.seats(x, 1, 1);
        x.row(2, 24);
        is("from 0", x.lay(2, 0), 24);
        is("0 1", x.get(2, 1), 1);
        is("1 0", x.get(2, 6), 1);
        is("from 1", x.lay(2, 1), -13);
        is("0 1 there", x.get(2, 2), 1);

        promise = "39 lay";
        x = Scene.with("1,10/10,1");
        is("row", x.lay(4, 0), -1);
        is("row -1", x.lay(-1, 0), -1);
        is("nothing, no plan", x.lay(1, 0), -11);
        x.row(1, 30);
        is("no plan, place", x.lay(1, -1), -3);
        Scene.seats(x, 1, 1);
        for (int i = 0; i < 30; i++) {
            x.set(1, i, 9);
        }
        is("laid", x.lay(1, 6), 24);
        is("ahead of it", x.get(1, 5), 9);
        is("0 0", x.get(1, 6), 0);
        is("0 1", x.get(1, 7), 1);
        is("1 0", x.get(1, 12), 1);
        is("1 1", x.get(1, 13), 0);
        is("3 5", x.get(1, 29), 0);
        is("not all", x.lay(1, 27), -13);
        is("27", x.get(1, 27), 0);
        is("28", x.get(1, 28), 1);
        is("29", x.get(1, 29), 0);
        is("below 0", x.lay(1, -1), -13);
        is("none of it", x.get(1, 0), 9);
        is("behind the end", x.lay(1, 30), -13);
        is("far", x.lay(1, HIGH), -13);
        is("far below", x.lay(1, LOW), -13);
        is("the plan is judged", x.judge(1, 6, 0), -3);
        x.lay(1, 6);
        is("laid again", x.judge(1, 6, 0), -5);
    }

    private static void images() {
        promise = "40 image";
        SeatHouse x = Scene.with("1,10/10,1");
        is("none yet", x.undo(), -3);
        Scene.seats(x, 1, 1);
        x.least(2, 3);
        x.join(2, 5);
        x.bar(7);
        x.way(5);
        x.tell(2, 7);
        is("taken", x.image(), 22);
        is("a ring", x.solve(), 1);
        x.vote(0, 0, 100);
        x.seats(0, 2);
        x.least(2, 4);
        x.join(2, 4);
        x.bar(8);
        x.way(1);
        x.tell(3, 8);
        x.row(0, 3);
        x.feed(65);
        is("a text", x.spell(2), 11);
        is("other plan", x.cell(0, 0), 2);
        promise = "41 undo";
        is("undone", x.undo(), 22);
        is("votes", x.votes(0, 0), 1);
        is("seats", x.told(10), 1);
        is("least", x.told(22), 3);
        is("list", x.told(32), 5);
        is("bar", x.told(3), 7);
        is("way", x.told(2), 5);
        is("a", x.told(4), 2);
        is("b", x.told(5), 7);
        is("tape stays", x.told(6), 1);
        is("paper stays", x.told(7), 11);
        is("rows stay", x.get(0, 2), 0);
        is("the plan of then", x.solve(), 1);
        is("cell", x.cell(0, 0), 0);
        x.vote(0, 0, 5);
        is("again", x.undo(), 22);
        is("votes again", x.votes(0, 0), 1);
        x.vote(0, 0, 5);
        is("another image", x.image(), 26);
        x.vote(0, 0, 6);
        is("of that one", x.undo(), 26);
    }
}
