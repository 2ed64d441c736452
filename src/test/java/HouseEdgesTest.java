/** Promises 13 to 28 (houses) and Terms 1: each sentence that names a boundary case. */
public final class HouseEdgesTest {
    private static final int NONE = -1;
    private static final int BAD = -2;
    private static final int STATE = -3;
    private static final long NO = Edges.NO;
    private static final int LOW = Edges.LOW;
    private static final int HIGH = Edges.HIGH;
    private static final int[] NO_WARD = {-1, 4, LOW, HIGH};
    private static final int[] NO_PARTY = {-1, 6, LOW, HIGH};
    private static final int[] NO_HOUSE = {-1, 61, LOW, HIGH};
    private static final Edges edges = new Edges("HouseEdgesTest");

    public static void main(String[] args) {
        whoIsIn();
        freePrices();
        exactPrices();
        leastsAlone();
        greatestRests();
        restsOfThoseWithoutMoreLeasts();
        nobodyIn();
        oneListCant();
        housesAndLists();
        ordersOfSeats();
        ties();
        differences();
        losses();
        passedOver();
        losers();
        prices();
        spans();
        quotas();
        alikeWays();
        partiesOfOneList();
        wouldBe();
        needed();
        neededVotesAtMost();
        spelledHouses();
        papers();
        askedChangesNothing();
        edges.end();
    }

    private static void houseIs(SeatHouse x, int h, String want) {
        edges.is("house of " + h, Scene.houseOf(x, h), want);
    }

    /** Every party of a house that can't be answers STATE. */
    private static void cantBe(SeatHouse x, int h) {
        houseIs(x, h, "-3,-3,-3,-3,-3,-3");
    }

    private static void whoIsIn() {
        edges.says("Terms 1: a PARTY is IN, if its TOTAL is above 0");
        edges.is("nobody", new SeatHouse().in(), 0);
        edges.is("with 1", Scene.with("0,1,0,0,0,1").in(), 2 | 32);
        edges.is("in the last WARD alone", Scene.with("0/0/0/1").in(), 1);
        SeatHouse x = Scene.with("1,5");
        x.vote(0, 0, 0);
        edges.is("none any more", x.in(), 2);
        edges.says("Terms 1: and 1000 times it isn't below THE BAR times ALL");
        x = Scene.with("1,999");
        x.bar(1);
        edges.is("1000 by 1000", x.in(), 3);
        x.bar(2);
        edges.is("1000 by 2000", x.in(), 2);
        x = Scene.with("1,1000");
        x.bar(1);
        edges.is("1000 by 1001", x.in(), 2);
        x = Scene.with("500,500");
        x.bar(500);
        edges.is("500000 by 500000", x.in(), 3);
        x.vote(0, 0, 499);
        edges.is("499000 by 499500", x.in(), 2);
        x.bar(499);
        edges.is("499000 by 498501", x.in(), 3);
        x = Scene.with("1,1,1");
        x.bar(333);
        edges.is("1000 by 999", x.in(), 7);
        x.bar(334);
        edges.is("1000 by 1002: nobody, although there are VOTES", x.in(), 0);
        x = Scene.with("100000,100000,100000,100000,100000,100000/100000,100000,100000,100000,100000,100000");
        Scene.feed(x, "100000,100000,100000,100000,100000,100000/100000,100000,100000,100000,100000,100000");
        x.read(2);
        x.bar(166);
        edges.is("400000000 by 398400000", x.in(), 63);
        x.bar(167);
        edges.is("400000000 by 400800000", x.in(), 0);
    }

    private static void freePrices() {
        edges.says("Terms 1: of a MARK 0: FREE, dearer than all others; of two FREE ones that with more VOTES is dearer");
        for (int way : new int[] {2, 3, 4, 5}) {
            SeatHouse x = Scene.with("1,100000,5,5");
            x.tell(0, 7);
            x.way(way);
            houseIs(x, 1, "0,1,0,0,0,0");
            houseIs(x, 2, "0,1,1,0,0,0");
            edges.is("of two with as many VOTES the least, way " + way, x.tie(2), 8);
            houseIs(x, 3, "0,1,1,1,0,0");
            houseIs(x, 4, "1,1,1,1,0,0");
            houseIs(x, 5, "1,2,1,1,0,0");
            edges.is("the fourth, way " + way, x.given(5, 3), 0);
            edges.is("no tie of FREE ones with unlike VOTES, way " + way, x.tie(4), 0);
        }
        edges.says("Terms 1: MARKS above 0 are not FREE");
        SeatHouse x = Scene.with("1,100000,5,5");
        x.way(5);
        x.tell(1, 99);
        houseIs(x, 4, "0,4,0,0,0,0");
        x.tell(1, 1);
        houseIs(x, 4, "0,4,0,0,0,0");
        x.way(0);
        houseIs(x, 4, "0,4,0,0,0,0");
        x.way(1);
        houseIs(x, 4, "0,4,0,0,0,0");
        edges.says("Terms 1: a LEAST is a first seat: the next has no MARK of 0");
        x = Scene.with("100000,1,1");
        x.way(2);
        x.least(0, 1);
        houseIs(x, 3, "1,1,1,0,0,0");
        houseIs(x, 2, "1,1,0,0,0,0");
        x.least(1, 1);
        houseIs(x, 3, "1,1,1,0,0,0");
    }

    private static void exactPrices() {
        edges.says("Terms 1: PRICES are held against each other exactly");
        // 262087 by root 6 is just above 151316 by root 2, since 262087 x 262087 is 3 x 151316 x 151316 and 1
        SeatHouse x = Scene.with("51316,62087/100000,100000/0,100000");
        x.way(3);
        edges.is("third of 1 ahead of the second of 0", x.given(4, 3), 1);
        edges.is("not as good", x.tie(4), 0);
        x.vote(0, 1, 62086);
        edges.is("one less: behind it", x.given(4, 3), 0);
        edges.says("Terms 1: (of ROOT by their squares), of several to the least");
        x = Scene.with("1,6");
        x.way(3);
        // 1 by root 2 is 6 by root 72
        edges.is("the second of 0, the ninth of 1", x.tie(10), 2);
        edges.is("to the least", x.given(10, 9), 0);
        edges.is("then the other", x.given(11, 10), 1);
        x = Scene.with("30001,90003");
        x.way(0);
        edges.is("DOWN: the first of 0, the third of 1", x.tie(3), 2);
        edges.is("to the least", x.given(3, 2), 0);
        x.vote(0, 1, 90004);
        edges.is("one more", x.given(3, 2), 1);
        x.way(4);
        x.vote(0, 0, 4);
        x.vote(0, 1, 3);
        // seconds: 4 x 3 by 4 is 3, 3 x 3 by 4 is 9 by 4; third of 0: 4 x 5 by 12 is 5 by 3
        edges.is("HARMONIC", x.given(5, 4), 0);
        x.vote(0, 1, 20);
        x.vote(0, 0, 9);
        // second of 0: 27 by 4; third of 1: 25 by 3; fourth of 1: 140 by 24
        edges.is("HARMONIC, third of 1", x.given(4, 3), 1);
        edges.is("HARMONIC, second of 0", x.given(5, 4), 0);
        x.way(1);
        x.vote(0, 0, 1);
        x.vote(0, 1, 3);
        edges.is("HALF: 2 by 1 is 6 by 3", x.tie(2), 2);
        x.way(5);
        x.tell(2, 4);
        edges.is("TOLD 2 by 4 is as HALF", x.tie(2), 2);
        x.tell(1, 3);
        // first of 0: 3 by 1; second of 1: 9 by 4
        edges.is("TOLD 1 by 3", x.given(2, 1), 0);
    }

    private static void leastsAlone() {
        edges.says("Terms 1: first all get their LEASTS; (Are the LEASTS more than h: it can't be.)");
        SeatHouse x = Scene.with("90,5,5");
        for (int way = 0; way < 6; way++) {
            x.way(way);
            x.least(1, 2);
            cantBe(x, 0);
            cantBe(x, 1);
            houseIs(x, 2, "0,2,0,0,0,0");
            edges.is("none is GIVEN behind them", x.given(2, 0), NONE);
            x.least(2, 9);
            cantBe(x, 10);
            houseIs(x, 11, "0,2,9,0,0,0");
            x.least(2, 0);
        }
        edges.says("Terms 1: as long as fewer than h are given, one goes to that with the dearest PRICE of its next seat");
        x = Scene.with("10,9");
        x.least(1, 1);
        houseIs(x, 2, "1,1,0,0,0,0");
        houseIs(x, 3, "2,1,0,0,0,0");
        edges.says("Terms 1: LEASTS of PARTIES that are IN");
        x = Scene.with("90,10");
        x.least(2, 9);
        houseIs(x, 1, "1,0,0,0,0,0");
        x.least(1, 9);
        cantBe(x, 8);
        x.bar(101);
        houseIs(x, 8, "8,0,0,0,0,0");
        x.way(6);
        houseIs(x, 8, "8,0,0,0,0,0");
        edges.says("Terms 1: LEASTS 0 .. 9, all of them");
        x = Scene.with("6,5,4,3,2,1");
        for (int party = 0; party < 6; party++) {
            x.least(party, 9);
        }
        cantBe(x, 53);
        houseIs(x, 54, "9,9,9,9,9,9");
        houseIs(x, 55, "10,9,9,9,9,9");
    }

    private static void greatestRests() {
        edges.says("Terms 1: RESTS: each gets its LEAST or v times h by all v, cut, whichever is more");
        SeatHouse x = Scene.with("60,40");
        x.way(6);
        houseIs(x, 10, "6,4,0,0,0,0");
        x.least(1, 4);
        houseIs(x, 10, "6,4,0,0,0,0");
        edges.says("Terms 1: RESTS: are these more than h, it can't be");
        x.least(1, 5);
        cantBe(x, 10);
        houseIs(x, 11, "6,5,0,0,0,0");
        x = Scene.with("55,45");
        x.way(6);
        x.least(1, 5);
        houseIs(x, 10, "5,5,0,0,0,0");
        x.least(1, 6);
        cantBe(x, 10);
        edges.says("Terms 1: RESTS: those left go, 1 to each, to those with the greatest rests, of several to the least");
        x = Scene.with("5,5,5");
        x.way(6);
        houseIs(x, 0, "0,0,0,0,0,0");
        houseIs(x, 1, "1,0,0,0,0,0");
        houseIs(x, 2, "1,1,0,0,0,0");
        houseIs(x, 3, "1,1,1,0,0,0");
        x = Scene.with("10,11,10,11");
        x.way(6);
        houseIs(x, 1, "0,1,0,0,0,0");
        houseIs(x, 2, "0,1,0,1,0,0");
        houseIs(x, 3, "1,1,0,1,0,0");
        x = Scene.with("1,2,3,4,5,6");
        x.way(6);
        // the rests of 5 are 5, 10, 15, 20, 4, 9, three are left; of 60 they are 18, 15, 12, 9, 6, 3, three are left
        houseIs(x, 5, "0,1,1,1,1,1");
        houseIs(x, 60, "3,6,9,11,14,17");
        // That too few of these are there can't come up: the cuts leave fewer seats than there are to give to, and each
        // LEAST that is more takes one of them. Where none is there, the LEASTS and cuts are more than h.
        edges.says("Terms 1: RESTS: (is there none, and are some left, it can't be)");
        x = Scene.with("5,5");
        x.way(6);
        x.least(0, 3);
        x.least(1, 3);
        cantBe(x, 5);
        houseIs(x, 6, "3,3,0,0,0,0");
        edges.says("Terms 1: RESTS: nothing is left");
        x = Scene.with("30,20,10");
        x.way(6);
        houseIs(x, 60, "30,20,10,0,0,0");
        houseIs(x, 6, "3,2,1,0,0,0");
    }

    private static void restsOfThoseWithoutMoreLeasts() {
        edges.says("Terms 1: RESTS: (of those whose LEAST wasn't more)");
        SeatHouse x = Scene.with("32,32,28,8");
        x.way(6);
        houseIs(x, 10, "3,3,3,1,0,0");
        x.least(2, 3);
        // 2 has the greatest rest and is ahead of 3, but its LEAST was more
        houseIs(x, 10, "3,3,3,1,0,0");
        x.least(2, 2);
        x.least(3, 1);
        // as many as its cut: 2 takes part; 3, with its LEAST, doesn't
        houseIs(x, 10, "3,3,3,1,0,0");
        x.least(2, 3);
        houseIs(x, 10, "3,3,3,1,0,0");
        x.least(0, 3);
        houseIs(x, 10, "3,3,3,1,0,0");
        x.least(0, 4);
        cantBe(x, 10);
        x = Scene.with("55,25,20");
        x.way(6);
        x.least(0, 5);
        edges.says("Terms 1: RESTS: a LEAST as many as the cut isn't more");
        houseIs(x, 10, "6,2,2,0,0,0");
        x.least(0, 0);
        x.least(1, 2);
        x.vote(0, 0, 54);
        x.vote(0, 1, 26);
        houseIs(x, 10, "5,3,2,0,0,0");
        x.least(1, 0);
        x.least(2, 0);
        x.vote(0, 2, 0);
        x.least(2, 9);
        houseIs(x, 10, "7,3,0,0,0,0");
    }

    private static void nobodyIn() {
        edges.says("Terms 1: It can't be, if nobody is IN and h is above 0");
        SeatHouse none = new SeatHouse();
        SeatHouse below = Scene.with("1,1,1");
        below.bar(334);
        for (SeatHouse x : new SeatHouse[] {none, below}) {
            for (int way = 0; way < 7; way++) {
                x.way(way);
                houseIs(x, 0, "0,0,0,0,0,0");
                cantBe(x, 1);
                cantBe(x, 60);
                edges.is("list of 0", x.list(0, 3), 0);
                edges.is("list of 1", x.list(1, 3), STATE);
                edges.is("given of 1", x.given(1, 0), STATE);
                edges.is("tie of 1", x.tie(1), STATE);
                edges.is("quota of 0", x.quota(0), 0);
                edges.is("quota of 1", x.quota(1), STATE);
                edges.is("alike of 0", x.alike(0), 127);
                edges.is("alike of 1", x.alike(1), STATE);
                edges.is("differ of 0", x.differ(0, 0, 6), 0);
                edges.is("differ of 1", x.differ(1, 0, 6), STATE);
                edges.is("loses", x.loses(0, 60), -5);
                edges.is("loser", x.loser(1), -5);
                edges.is("spell of 0", x.spell(0), 11);
                edges.is("spell of 1", x.spell(1), STATE);
            }
            x.way(0);
            edges.is("given of 0", x.given(0, 0), NONE);
            edges.is("tie of 0", x.tie(0), 0);
            edges.is("span of 0, next", x.span(0, 0, 0), NO);
            edges.is("span of 0, last", x.span(0, 1, 0), NO);
        }
    }

    private static void oneListCant() {
        edges.says("Terms 1: or if one of these can't be");
        SeatHouse x = Scene.with("30,20,50");
        x.way(6);
        x.join(1, 0);
        x.least(1, 2);
        // list 0 is given its LEASTS, 2; of these 0 has 1 by its votes
        cantBe(x, 4);
        for (int list = 0; list < 6; list++) {
            edges.is("list", x.list(4, list), STATE);
        }
        edges.is("quota", x.quota(4), STATE);
        houseIs(x, 6, "1,2,3,0,0,0");
        edges.is("list 0 of 6", x.list(6, 0), 3);
        x.way(0);
        houseIs(x, 4, "0,2,2,0,0,0");
        edges.says("Terms 1: the LEASTS of the PARTIES of a LIST, added up");
        x.least(0, 3);
        cantBe(x, 4);
        houseIs(x, 5, "3,2,0,0,0,0");
        edges.is("list 0 of 5", x.list(5, 0), 5);
        edges.says("Terms 1: with the VOTES of their PARTIES that are IN, added up");
        x = Scene.with("30,11,40,19");
        x.join(1, 0);
        x.join(3, 0);
        edges.is("60 by 40", x.list(1, 0), 1);
        x.bar(190);
        edges.is("49 by 40", x.list(1, 0), 1);
        x.bar(191);
        edges.is("30 by 40", x.list(1, 0), 0);
        edges.is("30 by 40, list 2", x.list(1, 2), 1);
    }

    private static void housesAndLists() {
        edges.says("14: NONE; BAD: h; STATE");
        for (int no : NO_PARTY) {
            edges.keeps("party " + no, NONE, y -> y.house(7, no));
            edges.keeps("party, h too, " + no, NONE, y -> y.house(61, no));
            edges.keeps("party, it can't be, " + no, NONE, y -> y.house(0, no));
        }
        for (int no : NO_HOUSE) {
            edges.keeps("h " + no, BAD, y -> y.house(no, 5));
        }
        edges.keeps("it can't be", STATE, y -> y.house(0, 5));
        edges.says("14: Seats of a PARTY in a HOUSE of h (0 .. 60)");
        SeatHouse x = Scene.with("3,2,1");
        houseIs(x, 0, "0,0,0,0,0,0");
        houseIs(x, 60, "30,20,10,0,0,0");
        for (int way = 0; way < 7; way++) {
            x = Scene.with("7");
            x.way(way);
            houseIs(x, 60, "60,0,0,0,0,0");
        }
        edges.says("15: NONE; BAD; STATE");
        for (int no : NO_PARTY) {
            edges.keeps("list " + no, NONE, y -> y.list(7, no));
            edges.keeps("list, h too, " + no, NONE, y -> y.list(-1, no));
            edges.keeps("list, it can't be, " + no, NONE, y -> y.list(0, no));
        }
        for (int no : NO_HOUSE) {
            edges.keeps("h of a list " + no, BAD, y -> y.list(no, 0));
        }
        edges.keeps("it can't be", STATE, y -> y.list(0, 0));
        edges.says("15: Seats of a LIST");
        x = Scene.with("3,2,1");
        for (int party = 0; party < 6; party++) {
            x.join(party, 5);
        }
        for (int list = 0; list < 5; list++) {
            edges.is("nobody's", x.list(60, list), 0);
        }
        edges.is("of all", x.list(60, 5), 60);
        edges.is("none of 0", x.list(0, 5), 0);
        houseIs(x, 60, "30,20,10,0,0,0");
    }

    private static void ordersOfSeats() {
        edges.says("16: BAD: h; STATE: it can't be, or the WAY is RESTS; NONE: i");
        for (int no : NO_HOUSE) {
            edges.keeps("h " + no, BAD, y -> y.given(no, 0));
            edges.keeps("h, i too, " + no, BAD, y -> y.given(no, -1));
            edges.keeps(HouseEdgesTest::byRests, "h by RESTS " + no, BAD, y -> y.given(no, 0));
        }
        edges.keeps("it can't be", STATE, y -> y.given(0, 0));
        edges.keeps("it can't be, i too", STATE, y -> y.given(0, -1));
        edges.keeps(HouseEdgesTest::byRests, "RESTS", STATE, y -> y.given(14, 0));
        edges.keeps(HouseEdgesTest::byRests, "RESTS, i too", STATE, y -> y.given(14, 60));
        for (int no : new int[] {-1, 13, 14, 60, LOW, HIGH}) {
            edges.keeps("i " + no, NONE, y -> y.given(14, no));
        }
        edges.says("16: the i-th seat (0 the first), behind the LEASTS");
        edges.is("the last of 13", Scene.busy().given(14, 12) >= 0 ? 1 : 0, 1);
        SeatHouse x = Scene.with("9");
        edges.is("of 0", x.given(0, 0), NONE);
        edges.is("of 60, the last", x.given(60, 59), 0);
        edges.is("of 60, behind it", x.given(60, 60), NONE);
        x = Scene.with("5,4");
        x.least(0, 2);
        x.join(1, 3);
        edges.is("of 2: LEASTS alone", x.given(2, 0), NONE);
        edges.is("of 3", x.given(3, 0), 3);
        edges.is("of 3, behind it", x.given(3, 1), NONE);
        edges.is("of 5", x.given(5, 1), 3);
        edges.is("of 5, last", x.given(5, 2), 0);
    }

    private static SeatHouse byRests() {
        SeatHouse x = Scene.busy();
        x.way(6);
        return x;
    }

    private static void ties() {
        edges.says("17: BAD; STATE likewise");
        for (int no : NO_HOUSE) {
            edges.keeps("h " + no, BAD, y -> y.tie(no));
            edges.keeps(HouseEdgesTest::byRests, "h by RESTS " + no, BAD, y -> y.tie(no));
        }
        edges.keeps("it can't be", STATE, y -> y.tie(0));
        edges.keeps(HouseEdgesTest::byRests, "RESTS", STATE, y -> y.tie(14));
        edges.says("17: AS GOOD when the last of these went (LISTS as bits; 0: none, or no seat went so)");
        SeatHouse x = Scene.with("4,4,4,4,4,4");
        int[] others = {0, 62, 60, 56, 48, 32, 0, 62};
        for (int h = 0; h < others.length; h++) {
            edges.is("tie of " + h, x.tie(h), others[h]);
        }
        x.least(5, 2);
        edges.is("LEASTS alone", x.tie(2), 0);
        edges.is("behind them", x.tie(3), 30);
        edges.is("the last of these, not those ahead of it", x.tie(7), 0);
        edges.is("none has one more", x.tie(8), 30);
        x.join(4, 0);
        // list 0 has 8 votes, its second seat is as good as the firsts of 1, 2, 3
        edges.is("the first of list 0", x.tie(3), 0);
        edges.is("its second", x.tie(4), 14);
    }

    private static void differences() {
        edges.says("18: NONE: ways; BAD: h; STATE: either can't be");
        for (int no : new int[] {-1, 7, LOW, HIGH}) {
            edges.keeps("one " + no, NONE, y -> y.differ(14, no, 0));
            edges.keeps("other " + no, NONE, y -> y.differ(14, 0, no));
            edges.keeps("one, h too, " + no, NONE, y -> y.differ(61, no, 0));
            edges.keeps("other, it can't be, " + no, NONE, y -> y.differ(0, 0, no));
        }
        for (int no : NO_HOUSE) {
            edges.keeps("h " + no, BAD, y -> y.differ(no, 0, 6));
        }
        edges.keeps("both can't be", STATE, y -> y.differ(0, 0, 6));
        SeatHouse x = Scene.with("60,40");
        x.least(1, 5);
        edges.is("by RESTS it can't be, one", x.differ(10, 6, 0), STATE);
        edges.is("by RESTS it can't be, other", x.differ(10, 0, 6), STATE);
        edges.is("by RESTS it can't be, both", x.differ(10, 6, 6), STATE);
        edges.is("by others it can", x.differ(10, 0, 5), 0);
        edges.says("18: those of all PARTIES, amounts added up, by 2");
        x = Scene.with("96,2,1,1");
        edges.is("of 0", x.differ(0, 0, 6), 0);
        edges.is("of 60: 59,1,0,0 and 56,2,1,1", x.differ(60, 0, 2), 3);
        edges.is("the other way round", x.differ(60, 2, 0), 3);
        edges.is("a way and itself", x.differ(60, 6, 6), 0);
        edges.is("of 4: 4 and 1,1,1,1", x.differ(4, 0, 2), 3);
    }

    private static void losses() {
        edges.says("19: BAD: a, b (not 0 .. 60, b below a)");
        for (int no : NO_HOUSE) {
            edges.keeps("a " + no, BAD, y -> y.loses(no, 60));
            edges.keeps("b " + no, BAD, y -> y.loses(0, no));
            edges.keeps("both " + no, BAD, y -> y.loses(no, no));
        }
        edges.keeps("b below a", BAD, y -> y.loses(5, 4));
        edges.keeps("b below a, most", BAD, y -> y.loses(60, 0));
        edges.says("19: The least h from a + 1 to b in whose HOUSE a PARTY has fewer seats than in that of h - 1; -5: none");
        SeatHouse x = Scene.with("6,6,2");
        x.way(6);
        edges.is("3 has 1,1,1, 4 has 2,2,0", x.loses(0, 60), 4);
        edges.is("from 4", x.loses(3, 4), 4);
        edges.is("to 3", x.loses(0, 3), -5);
        edges.is("from 5", x.loses(4, 10), -5);
        edges.is("from 5 to 11", x.loses(4, 11), 11);
        edges.is("no h", x.loses(4, 4), -5);
        edges.is("no h, 0", x.loses(0, 0), -5);
        edges.is("no h, 60", x.loses(60, 60), -5);
        edges.is("the last", x.loses(59, 60), 60);
        edges.is("ahead of the last", x.loses(58, 59), -5);
    }

    /** By RESTS the houses of 7 and 9 can be, that of 8 can't; a party of the house of 7 has fewer in that of 9. */
    private static SeatHouse withAGap() {
        SeatHouse x = Scene.with("4,5,18,7,2");
        x.way(6);
        x.least(0, 2);
        x.join(1, 0);
        x.join(2, 0);
        x.join(3, 2);
        x.join(4, 1);
        return x;
    }

    private static void passedOver() {
        edges.says("19: One that can't be, or ahead of which it can't, is passed over");
        SeatHouse x = withAGap();
        houseIs(x, 7, "2,0,3,1,1,0");
        cantBe(x, 8);
        houseIs(x, 9, "2,1,4,2,0,0");
        edges.is("7, none, 9", x.loses(7, 9), -5);
        edges.is("7, none", x.loses(7, 8), -5);
        edges.is("none, 9", x.loses(8, 9), -5);
        x = Scene.with("6,6,2");
        x.way(0);
        x.least(2, 9);
        edges.is("none up to 8", x.loses(0, 9), -5);
        x = Scene.with("9,1,1");
        x.way(6);
        x.least(2, 2);
        houseIs(x, 10, "8,0,2,0,0,0");
        cantBe(x, 11);
        edges.is("10, none", x.loses(10, 11), -5);
        edges.says("19: it goes on behind one that is passed over");
        x = withAGap();
        houseIs(x, 28, "3,4,14,5,2,0");
        houseIs(x, 29, "3,4,15,6,1,0");
        edges.is("1 to 4 can't be, nor can 8", x.loses(0, 60), 29);
        edges.is("up to 28", x.loses(0, 28), -5);
        edges.is("from 8, which can't be", x.loses(8, 29), 29);
    }

    private static void losers() {
        edges.says("20: BAD: h (1 .. 60)");
        for (int no : new int[] {-1, 0, 61, LOW, HIGH}) {
            edges.keeps("h " + no, BAD, y -> y.loser(no));
        }
        edges.says("20: The least PARTY that does so at h; -5");
        SeatHouse x = Scene.with("6,6,2");
        x.way(6);
        edges.is("at 1", x.loser(1), -5);
        edges.is("at 3", x.loser(3), -5);
        edges.is("at 4", x.loser(4), 2);
        edges.is("at 60", x.loser(60), 2);
        x.vote(0, 0, 2);
        x.vote(0, 2, 6);
        edges.is("0 at 4", x.loser(4), 0);
        x = withAGap();
        edges.is("it can't be", x.loser(8), -5);
        edges.is("ahead of it it can't", x.loser(9), -5);
        edges.is("nobody is IN", new SeatHouse().loser(1), -5);
        edges.says("20: of two the least");
        x = Scene.with("17,18,6,17,6");
        x.way(6);
        houseIs(x, 5, "1,1,1,1,1,0");
        houseIs(x, 6, "2,2,0,2,0,0");
        edges.is("2 and 4", x.loser(6), 2);
        edges.is("both at 6", x.loses(5, 6), 6);
        x = Scene.with("1,1,14,3,5");
        x.way(6);
        houseIs(x, 12, "1,1,7,1,2,0");
        houseIs(x, 13, "0,0,8,2,3,0");
        edges.is("0 and 1", x.loser(13), 0);
        edges.is("PARTY 0 is one", x.loses(12, 13), 13);
    }

    private static void priceIs(SeatHouse x, int party, int n, long above, long below) {
        edges.is("price of seat " + n + " of " + party + " above", x.price(party, n, 0), above);
        edges.is("price of seat " + n + " of " + party + " below", x.price(party, n, 1), below);
    }

    private static void prices() {
        edges.says("21: NO: party, n (1 .. 60), part");
        for (int no : NO_PARTY) {
            edges.keeps("party " + no, NO, y -> y.price(no, 1, 0));
        }
        for (int no : new int[] {-1, 0, 61, LOW, HIGH}) {
            edges.keeps("n " + no, NO, y -> y.price(0, no, 0));
        }
        for (int no : new int[] {-1, 2, LOW, HIGH}) {
            edges.keeps("part " + no, NO, y -> y.price(0, 1, no));
        }
        edges.says("21: in lowest terms: part 0 above, 1 below the line");
        SeatHouse x = Scene.with("60,7/0,0,0,0,0,5");
        priceIs(x, 0, 1, 60, 1);
        priceIs(x, 0, 8, 15, 2);
        priceIs(x, 0, 60, 1, 1);
        priceIs(x, 5, 60, 1, 12);
        priceIs(x, 1, 60, 7, 60);
        edges.says("21: of a TOTAL of 0: 0 by 1");
        priceIs(x, 2, 1, 0, 1);
        priceIs(x, 2, 60, 0, 1);
        edges.says("21: by its TOTAL, of a PARTY that isn't IN too");
        x.bar(500);
        priceIs(x, 5, 1, 5, 1);
        edges.says("21: (of ROOT: its square)");
        x.way(3);
        priceIs(x, 0, 2, 1800, 1);
        priceIs(x, 0, 60, 60, 59);
        priceIs(x, 2, 2, 0, 1);
        edges.says("21: NO: it is FREE");
        for (int way = 0; way < 6; way++) {
            boolean free = way >= 2;
            x.way(way);
            x.tell(0, 99);
            edges.is("with VOTES, way " + way, x.price(0, 1, 0) == NO ? 1 : 0, free ? 1 : 0);
            edges.is("with VOTES, below, way " + way, x.price(0, 1, 1) == NO ? 1 : 0, free ? 1 : 0);
            edges.is("without VOTES, way " + way, x.price(2, 1, 0), free ? NO : 0);
            edges.is("without VOTES, below, way " + way, x.price(2, 1, 1), free ? NO : 1);
            edges.is("the second, way " + way, x.price(0, 2, 1) == NO ? 1 : 0, 0);
        }
        x.tell(1, 99);
        priceIs(x, 0, 1, 5940, 1);
        priceIs(x, 0, 2, 297, 5);
        edges.says("21: NO: the WAY is RESTS");
        x.way(6);
        priceIs(x, 0, 1, NO, NO);
        priceIs(x, 0, 60, NO, NO);
        edges.says("21: the greatest");
        x = Scene.with("100000/100000/100000/99999");
        x.way(3);
        priceIs(x, 0, 2, 159999200001L, 2);
        x.way(5);
        x.tell(1, 99);
        priceIs(x, 0, 1, 39599901, 1);
        x.way(4);
        priceIs(x, 0, 60, 15866627, 2360);
        x.way(1);
        priceIs(x, 0, 60, 799998, 119);
    }

    private static void spanIs(SeatHouse x, int h, int side, long above, long below) {
        edges.is("span of " + h + ", side " + side + " above", x.span(h, side, 0), above);
        edges.is("span of " + h + ", side " + side + " below", x.span(h, side, 1), below);
    }

    private static void spans() {
        edges.says("22: NO: h, side, part");
        for (int no : NO_HOUSE) {
            edges.keeps("h " + no, NO, y -> y.span(no, 0, 0));
            edges.keeps("h, side 1, " + no, NO, y -> y.span(no, 1, 1));
        }
        for (int no : new int[] {-1, 2, LOW, HIGH}) {
            edges.keeps("side " + no, NO, y -> y.span(14, no, 0));
            edges.keeps("part " + no, NO, y -> y.span(14, 0, no));
        }
        edges.says("22: NO: the WAY is ROOT or RESTS");
        SeatHouse x = Scene.with("12,8");
        for (int way = 0; way < 7; way++) {
            x.way(way);
            boolean none = way == 3 || way == 6;
            edges.is("next, way " + way, x.span(9, 0, 0) == NO ? 1 : 0, none ? 1 : 0);
            edges.is("last, way " + way, x.span(9, 1, 1) == NO ? 1 : 0, none ? 1 : 0);
        }
        edges.says("22: NO: it can't be");
        x.way(0);
        x.least(0, 2);
        x.least(1, 2);
        spanIs(x, 3, 0, NO, NO);
        spanIs(x, 3, 1, NO, NO);
        edges.says("22: NO: there is no such seat (a last one that isn't of its LEASTS)");
        spanIs(x, 4, 0, 4, 1);
        spanIs(x, 4, 1, NO, NO);
        spanIs(x, 5, 1, 4, 1);
        spanIs(x, 6, 1, 3, 1);
        x.least(1, 0);
        spanIs(x, 2, 1, NO, NO);
        spanIs(x, 3, 1, 8, 1);
        x.least(0, 0);
        spanIs(x, 0, 1, NO, NO);
        spanIs(x, 0, 0, 12, 1);
        spanIs(x, 1, 1, 12, 1);
        spanIs(x, 60, 0, 12, 37);
        spanIs(x, 60, 1, 1, 3);
        edges.says("22: NO: that PRICE is FREE");
        x.way(2);
        spanIs(x, 0, 0, NO, NO);
        spanIs(x, 1, 0, NO, NO);
        spanIs(x, 1, 1, NO, NO);
        spanIs(x, 2, 0, 12, 1);
        spanIs(x, 2, 1, NO, NO);
        spanIs(x, 3, 0, 8, 1);
        spanIs(x, 3, 1, 12, 1);
        edges.says("22: of a LIST with a PARTY that is IN");
        x = Scene.with("12,8,1");
        x.way(0);
        x.bar(50);
        x.least(2, 9);
        spanIs(x, 1, 0, 8, 1);
        x.join(2, 1);
        spanIs(x, 1, 0, 8, 1);
        x.bar(0);
        spanIs(x, 10, 0, 6, 1);
        spanIs(x, 10, 1, 12, 1);
        edges.says("22: as good ones: both sides are alike");
        x = Scene.with("6,6");
        spanIs(x, 1, 0, 6, 1);
        spanIs(x, 1, 1, 6, 1);
    }

    private static void quotas() {
        edges.says("23: BAD; STATE");
        for (int no : NO_HOUSE) {
            edges.keeps("h " + no, BAD, y -> y.quota(no));
        }
        edges.keeps("it can't be", STATE, y -> y.quota(0));
        edges.says("23: below TOTAL times h by all TOTALS, cut, or above that, cut upward");
        SeatHouse x = Scene.with("50,50");
        edges.is("1 and 1 of 1 and 1", x.quota(2), 0);
        x.least(1, 2);
        edges.is("0 and 2 of 1 and 1", x.quota(2), 3);
        edges.is("1 and 2 of 3 by 2", x.quota(3), 0);
        x.least(1, 3);
        edges.is("0 and 3 of 3 by 2", x.quota(3), 3);
        x = Scene.with("70,30");
        x.least(1, 2);
        edges.is("1 and 2 of 21 by 10 and 9 by 10: 1 is above 1, 0 below 2", x.quota(3), 3);
        x.least(1, 1);
        edges.is("2 and 1", x.quota(3), 0);
        x.least(1, 0);
        x.least(0, 3);
        edges.is("3 and 0: cut upward, cut", x.quota(3), 0);
        edges.is("at 0 it can't be", x.quota(0), STATE);
        x.least(0, 0);
        edges.is("at 0", x.quota(0), 0);
        edges.is("whole numbers at 60", x.quota(60), 0);
        edges.says("23: PARTIES that are IN, by all TOTALS of PARTIES that are IN");
        x = Scene.with("50,25,25");
        x.bar(251);
        edges.is("0 alone: 4 of 4", x.quota(4), 0);
        x.bar(250);
        x.way(6);
        edges.is("three", x.quota(4), 0);
        x = Scene.with("40,40,20");
        x.bar(300);
        x.least(0, 3);
        edges.is("3 and 1 of 2 and 2", x.quota(4), 3);
    }

    private static void alikeWays() {
        edges.says("24: BAD; STATE");
        for (int no : NO_HOUSE) {
            edges.keeps("h " + no, BAD, y -> y.alike(no));
        }
        edges.keeps("it can't be", STATE, y -> y.alike(0));
        edges.says("24: WAYS (bits) by which a HOUSE of h has the seats of all PARTIES that it has by the WAY");
        SeatHouse x = Scene.with("96,2,1,1");
        edges.is("DOWN, HALF, TOLD, RESTS of 4: 4,0,0,0", x.alike(4), 1 | 2 | 32 | 64);
        x.way(2);
        edges.is("UP, ROOT, HARMONIC of 4: 1,1,1,1", x.alike(4), 4 | 8 | 16);
        edges.is("all of 0", x.alike(0), 127);
        edges.is("all of 1", x.alike(1), 127);
        edges.says("24: a WAY by which it can't be isn't one");
        x = Scene.with("60,40");
        x.least(1, 5);
        edges.is("all but RESTS", x.alike(10), 63);
        x.way(6);
        edges.is("by RESTS it can't be", x.alike(10), STATE);
    }

    private static SeatHouse inOneList(String votes, int list) {
        SeatHouse x = Scene.with(votes);
        for (int party = 0; party < 6; party++) {
            x.join(party, list);
        }
        return x;
    }

    private static void partiesOfOneList() {
        edges.says("18, 24: the seats of all PARTIES, not those of LISTS");
        SeatHouse x = inOneList("96,2,1,1", 3);
        edges.is("differ of 60: 59,1,0,0 and 56,2,1,1", x.differ(60, 0, 2), 3);
        edges.is("alike of 4", x.alike(4), 1 | 2 | 32 | 64);
        edges.says("19, 20: a PARTY has fewer, although its LIST has more");
        x = inOneList("6,6,2", 4);
        x.way(6);
        edges.is("loses", x.loses(0, 60), 4);
        edges.is("loser", x.loser(4), 2);
        edges.says("23: PARTIES whose seats are below or above");
        x = inOneList("80,7,7,6", 1);
        edges.is("quota", x.quota(10), 1);
        edges.says("16, 17, 22: LISTS, not PARTIES");
        edges.is("given", x.given(10, 9), 1);
        edges.is("given the next", x.given(10, 10), NONE);
        edges.is("tie", x.tie(10), 0);
        spanIs(x, 10, 0, 100, 11);
        spanIs(x, 10, 1, 10, 1);
        x = Scene.with("4,4,4");
        x.join(1, 5);
        x.join(2, 4);
        edges.is("tie of LISTS 0, 4, 5", x.tie(1), 16 | 32);
        edges.is("given to the least LIST", x.given(2, 1), 4);
        edges.is("the last", x.given(3, 2), 5);
        edges.says("Terms 1: of several to the least, of the PARTIES of a LIST too");
        x = inOneList("4,4,4,4,4,4", 2);
        for (int way = 0; way < 7; way++) {
            x.way(way);
            houseIs(x, 1, "1,0,0,0,0,0");
            houseIs(x, 4, "1,1,1,1,0,0");
            houseIs(x, 7, "2,1,1,1,1,1");
        }
        edges.says("21: by its TOTAL, not by that of its LIST");
        x = inOneList("6,5", 0);
        priceIs(x, 1, 2, 5, 2);
    }

    private static void wouldBe() {
        edges.says("25: NONE: ward, party; BAD: v, h; STATE");
        for (int no : NO_WARD) {
            edges.keeps("ward " + no, NONE, y -> y.would(no, 0, 1, 14));
            edges.keeps("ward, v and h too, " + no, NONE, y -> y.would(no, 0, -1, 61));
        }
        for (int no : NO_PARTY) {
            edges.keeps("party " + no, NONE, y -> y.would(0, no, 1, 14));
            edges.keeps("party, v and h too, " + no, NONE, y -> y.would(3, no, 100001, -1));
        }
        for (int no : new int[] {-1, 100001, LOW, HIGH}) {
            edges.keeps("v " + no, BAD, y -> y.would(0, 0, no, 14));
            edges.keeps("v, it can't be, " + no, BAD, y -> y.would(0, 0, no, 0));
        }
        for (int no : NO_HOUSE) {
            edges.keeps("h " + no, BAD, y -> y.would(0, 0, 1, no));
        }
        edges.keeps("it can't be", STATE, y -> y.would(0, 0, 1, 0));
        edges.says("25: Seats of a PARTY in a HOUSE of h, were its VOTES in a WARD v");
        SeatHouse x = Scene.with("10,9");
        edges.is("v 0", x.would(0, 0, 0, 60), 0);
        edges.is("v 100000", x.would(3, 5, 100000, 60), 60);
        edges.is("in the last WARD", x.would(3, 1, 2, 1), 1);
        edges.is("h 0", x.would(0, 0, 5, 0), 0);
        edges.is("as they are", x.would(0, 0, 10, 1), 1);
        edges.is("as good, behind the lesser PARTY", x.would(0, 1, 10, 1), 0);
        edges.is("as good, ahead of the greater PARTY", x.would(0, 0, 9, 1), 1);
        edges.says("25: STATE: it can't be then");
        edges.is("nobody would be IN", new SeatHouse().would(0, 0, 0, 1), STATE);
        x.least(2, 2);
        edges.is("IN with its LEAST", x.would(0, 2, 1, 1), STATE);
        edges.is("IN with its LEAST of 2", x.would(0, 2, 1, 2), 2);
        edges.is("not IN", x.would(0, 2, 0, 1), 0);
        x.vote(0, 2, 1);
        edges.is("it can't be now, but could then", x.would(0, 2, 0, 1), 0);
    }

    private static void needed() {
        edges.says("26: NONE; BAD: h; STATE: that of now can't be");
        for (int no : NO_WARD) {
            edges.keeps("ward " + no, NONE, y -> y.needs(no, 0, 14));
            edges.keeps("ward, h too, " + no, NONE, y -> y.needs(no, 0, 61));
        }
        for (int no : NO_PARTY) {
            edges.keeps("party " + no, NONE, y -> y.needs(0, no, 14));
            edges.keeps("party, it can't be, " + no, NONE, y -> y.needs(0, no, 0));
        }
        for (int no : NO_HOUSE) {
            edges.keeps("h " + no, BAD, y -> y.needs(0, 0, no));
        }
        edges.keeps("it can't be", STATE, y -> y.needs(0, 0, 0));
        SeatHouse nobody = new SeatHouse();
        edges.is("nobody is IN now", nobody.needs(0, 0, 1), STATE);
        edges.is("none to be had", nobody.needs(0, 0, 0), -5);
        edges.says("26: The least d (1 .. 300); -5");
        SeatHouse x = Scene.with("300,1000");
        edges.is("1", Scene.with("5,5").needs(0, 1, 1), 1);
        edges.is("200 by a half of 1000", x.needs(0, 0, 2), 200);
        x.vote(0, 1, 600);
        edges.is("300 of them are as good, and 0 is the lesser", x.needs(0, 0, 1), 300);
        x.vote(0, 1, 601);
        edges.is("301 would be needed", x.needs(0, 0, 1), -5);
        edges.is("by 1 of 2 it has one", x.needs(0, 1, 2), -5);
        edges.is("h 60, all", Scene.with("7").needs(0, 0, 60), -5);
        edges.is("VOTES of the last WARD", x.needs(3, 0, 2), 1);
        // 601, half of it, 300, a third of 601
        edges.is("the last PARTY, ahead of a third of 601", x.needs(3, 5, 4), 201);
        edges.is("301 would be needed ahead of the half", x.needs(3, 5, 2), -5);
        edges.says("26: (one that can't be: none)");
        x = Scene.with("100,10");
        x.bar(100);
        x.least(1, 5);
        edges.is("2 more: IN, but its LEAST is above h", x.needs(0, 1, 4), -5);
        edges.is("2 more: IN with its LEAST", x.needs(0, 1, 5), 2);
        x = Scene.with("2,12,8");
        x.way(6);
        x.least(0, 2);
        houseIs(x, 8, "2,4,2,0,0,0");
        edges.is("1 more", x.would(0, 2, 9, 8), STATE);
        edges.is("2 more", x.would(0, 2, 10, 8), STATE);
        edges.is("behind two that can't be", x.needs(0, 2, 8), 3);
    }

    private static void neededVotesAtMost() {
        edges.says("26: with d VOTES more in a WARD (not above 100000)");
        SeatHouse x = Scene.with("99800,100000/0,1");
        edges.is("not with 100000", x.needs(0, 0, 1), -5);
        x.vote(1, 1, 0);
        edges.is("with 100000", x.needs(0, 0, 1), 200);
        edges.is("in another WARD", x.needs(1, 0, 1), 200);
        x.vote(1, 1, 1);
        edges.is("in another WARD one more", x.needs(1, 0, 1), 201);
        x.vote(0, 0, 100000);
        edges.is("none can be told more", x.needs(0, 0, 1), -5);
        edges.is("in another WARD 1", x.needs(1, 0, 1), 1);
    }

    private static void spelledHouses() {
        edges.says("27: BAD; STATE");
        for (int no : NO_HOUSE) {
            edges.keeps("h " + no, BAD, y -> y.spell(no));
        }
        edges.keeps("it can't be", STATE, y -> y.spell(0));
        edges.says("27: THE PAPER becomes a HOUSE SPELLED: how many bytes");
        SeatHouse x = Scene.with("0,0,0,0,0,9");
        String[] spelled = {"0,0,0,0,0,0", "0,0,0,0,0,9", "0,0,0,0,0,10", "0,0,0,0,0,60"};
        int[] sizes = {0, 9, 10, 60};
        for (int i = 0; i < sizes.length; i++) {
            edges.is("bytes", x.spell(sizes[i]), spelled[i].length());
            edges.is("paper", Scene.paperOf(x), spelled[i]);
            edges.is("told", x.told(7), spelled[i].length());
        }
        edges.is("shorter again", x.spell(1), 11);
        edges.is("nothing of the longer one is left", Scene.paperOf(x), "0,0,0,0,0,1");
        x = Scene.with("19,41");
        edges.is("of two figures each", x.spell(60), 13);
        edges.is("paper", Scene.paperOf(x), "19,41,0,0,0,0");
        x = Scene.with("1,1,1,1,1,1");
        edges.is("longest", x.spell(60), 17);
        edges.is("paper", Scene.paperOf(x), "10,10,10,10,10,10");
    }

    private static void papers() {
        edges.says("28: NONE");
        SeatHouse empty = new SeatHouse();
        for (int no : new int[] {-1, 0, 1, LOW, HIGH}) {
            edges.is("nothing at first, " + no, empty.paper(no), NONE);
        }
        for (int no : new int[] {-1, 11, 12, LOW, HIGH}) {
            edges.keeps("byte " + no, NONE, y -> y.paper(no));
        }
        edges.says("28: Byte i of THE PAPER");
        SeatHouse x = Scene.with("0,0,0,0,0,9");
        x.spell(60);
        edges.is("first", x.paper(0), '0');
        edges.is("second", x.paper(1), ',');
        edges.is("last but one", x.paper(10), '6');
        edges.is("last", x.paper(11), '0');
        edges.is("behind it", x.paper(12), NONE);
        x.spell(9);
        edges.is("behind a shorter one", x.paper(11), NONE);
    }

    private static void askedChangesNothing() {
        edges.says("Answers: what is asked changes nothing but THE PAPER");
        edges.is("the house that is asked", Scene.houseOf(Scene.busy(), 14), "3,5,4,1,0,1");
        edges.keeps("in", 47, y -> y.in());
        edges.keeps("house", 3, y -> y.house(14, 0));
        edges.keeps("list", 4, y -> y.list(14, 0));
        edges.keeps("given", 1, y -> y.given(14, 0));
        edges.keeps("tie", 0, y -> y.tie(14));
        edges.keeps("differ", 0, y -> y.differ(14, 5, 5));
        edges.keeps("loses", -5, y -> y.loses(0, 60));
        edges.keeps("loser", -5, y -> y.loser(60));
        edges.keeps("price", 345, y -> y.price(0, 1, 0));
        edges.keeps("span", 420, y -> y.span(14, 0, 0));
        edges.keeps("span, below", 13, y -> y.span(14, 0, 1));
        edges.keeps("quota", 0, y -> y.quota(14));
        edges.keeps("alike", 126, y -> y.alike(14));
        edges.keeps("would", 0, y -> y.would(0, 0, 0, 2));
        edges.keeps("needs", 8, y -> y.needs(0, 0, 60));
        edges.keeps("paper", '3', y -> y.paper(0));
        edges.keepsAllButPaper(Scene::busy, "spell", 14, y -> y.spell(60));
    }
}
