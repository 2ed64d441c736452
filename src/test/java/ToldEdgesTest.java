/** Promises 1 to 12 and 35 (what is told, the tape): each sentence that names a boundary case. */
public final class ToldEdgesTest {
    private static final int NONE = -1;
    private static final int BAD = -2;
    private static final int FULL = -4;
    private static final int LOW = Edges.LOW;
    private static final int HIGH = Edges.HIGH;
    private static final Edges edges = new Edges("ToldEdgesTest");

    public static void main(String[] args) {
        atFirst();
        votesOfWards();
        sums();
        seatsOfWards();
        leasts();
        lists();
        theBar();
        ways();
        toldMarks();
        feeding();
        clearing();
        readingFromAWard();
        oneNumber();
        manyNumbers();
        manyWards();
        endsTooEarly();
        otherBytes();
        leftmostFault();
        faultDoesNothing();
        whatIsTold();
        askedChangesNothing();
        edges.end();
    }

    private static void atFirst() {
        SeatHouse x = new SeatHouse();
        edges.says("1: No VOTES, no SEATS");
        for (int ward = -1; ward < 4; ward++) {
            for (int party = -1; party < 6; party++) {
                edges.is("votes " + ward + " " + party, x.votes(ward, party), 0);
            }
        }
        for (int ward = 0; ward < 4; ward++) {
            edges.is("seats of ward " + ward, x.told(10 + ward), 0);
        }
        edges.says("Terms 1: LEAST 0 at first, LIST its own number at first");
        for (int party = 0; party < 6; party++) {
            edges.is("least of " + party, x.told(20 + party), 0);
            edges.is("list of " + party, x.told(30 + party), party);
        }
        edges.says("Terms 1: THE BAR 0 at first");
        edges.is("bar", x.told(3), 0);
        edges.says("Terms 1: WAYS 0 at first");
        edges.is("way", x.told(2), 0);
        edges.says("Terms 1: TOLD 1 by 2 at first");
        edges.is("a", x.told(4), 1);
        edges.is("b", x.told(5), 2);
        edges.says("Terms 3: THE TAPE holds 0 .. 120 bytes");
        edges.is("bytes", x.told(6), 0);
        edges.says("Terms 3: THE PAPER, nothing at first");
        edges.is("bytes", x.told(7), 0);
        edges.is("byte 0", x.paper(0), NONE);
        edges.says("Terms 3: ROWS hold nothing at first");
        for (int row = 0; row < 4; row++) {
            edges.is("set", x.set(row, 0, 1), -11);
            edges.is("get", x.get(row, 0), Edges.NO);
        }
        edges.says("41: STATE: there is none");
        edges.is("undo", x.undo(), -3);
    }

    private static void votesOfWards() {
        edges.says("2: VOTES of a PARTY in a WARD become v: what they were; 0 .. 100000, WARDS 0 .. 3, PARTIES 0 .. 5");
        SeatHouse x = new SeatHouse();
        for (int i = 0; i < 24; i++) {
            edges.is("0 as at first, " + i, x.vote(i / 6, i % 6, i % 2 == 0 ? 100000 : i), 0);
        }
        for (int i = 0; i < 24; i++) {
            edges.is("each for itself, " + i, x.votes(i / 6, i % 6), i % 2 == 0 ? 100000 : i);
        }
        for (int i = 0; i < 24; i++) {
            edges.is("0 again, " + i, x.vote(i / 6, i % 6, 0), i % 2 == 0 ? 100000 : i);
        }
        edges.is("nothing is left", x.votes(-1, -1), 0);
        edges.says("2: NONE: ward, party");
        for (int no : new int[] {-1, 4, LOW, HIGH}) {
            edges.keeps("ward " + no, NONE, y -> y.vote(no, 0, 1));
            edges.keeps("ward, v too, " + no, NONE, y -> y.vote(no, 0, -1));
        }
        for (int no : new int[] {-1, 6, LOW, HIGH}) {
            edges.keeps("party " + no, NONE, y -> y.vote(0, no, 1));
            edges.keeps("party, v too, " + no, NONE, y -> y.vote(3, no, 100001));
        }
        edges.says("2: BAD");
        for (int no : new int[] {-1, 100001, LOW, HIGH}) {
            edges.keeps("v " + no, BAD, y -> y.vote(0, 0, no));
            edges.keeps("v of the last " + no, BAD, y -> y.vote(3, 5, no));
        }
    }

    private static void sums() {
        edges.says("3: TOTAL (ward -1); of a WARD all (party -1); ALL (both)");
        SeatHouse x = new SeatHouse();
        for (int i = 0; i < 24; i++) {
            x.vote(i / 6, i % 6, 100000);
        }
        edges.is("greatest TOTAL", x.votes(-1, 5), 400000);
        edges.is("greatest of a WARD", x.votes(3, -1), 600000);
        edges.is("greatest ALL", x.votes(-1, -1), 2400000);
        edges.is("told ALL", x.told(0), 2400000);
        x.vote(3, 5, 0);
        edges.is("TOTAL of the last", x.votes(-1, 5), 300000);
        edges.is("of the last WARD", x.votes(3, -1), 500000);
        edges.is("TOTAL of the first", x.votes(-1, 0), 400000);
        edges.is("of the first WARD", x.votes(0, -1), 600000);
        edges.is("one", x.votes(3, 4), 100000);
        edges.says("3: NONE");
        for (int no : new int[] {-2, LOW, HIGH}) {
            edges.keeps("ward " + no, NONE, y -> y.votes(no, 0));
            edges.keeps("ward, all parties " + no, NONE, y -> y.votes(no, -1));
            edges.keeps("party " + no, NONE, y -> y.votes(0, no));
            edges.keeps("party, all wards " + no, NONE, y -> y.votes(-1, no));
        }
        edges.keeps("ward 4", NONE, y -> y.votes(4, 5));
        edges.keeps("ward 4, all parties", NONE, y -> y.votes(4, -1));
        edges.keeps("party 6", NONE, y -> y.votes(3, 6));
        edges.keeps("party 6, all wards", NONE, y -> y.votes(-1, 6));
    }

    private static void seatsOfWards() {
        edges.says("4: A WARD has n SEATS: what it had (0 .. 30)");
        SeatHouse x = new SeatHouse();
        for (int ward = 0; ward < 4; ward++) {
            edges.is("30", x.seats(ward, 30), 0);
        }
        for (int ward = 0; ward < 4; ward++) {
            edges.is("0", x.seats(ward, 0), 30);
            edges.is("told", x.told(10 + ward), 0);
        }
        edges.says("4: NONE");
        for (int no : new int[] {-1, 4, LOW, HIGH}) {
            edges.keeps("ward " + no, NONE, y -> y.seats(no, 1));
            edges.keeps("ward, n too, " + no, NONE, y -> y.seats(no, 31));
        }
        edges.says("4: BAD: n (0 .. 30)");
        for (int no : new int[] {-1, 31, LOW, HIGH}) {
            edges.keeps("n " + no, BAD, y -> y.seats(0, no));
            edges.keeps("n of the last " + no, BAD, y -> y.seats(3, no));
        }
    }

    private static void leasts() {
        edges.says("5: A PARTY has a LEAST (0 .. 9): what it had");
        SeatHouse x = new SeatHouse();
        for (int party = 0; party < 6; party++) {
            edges.is("9", x.least(party, 9), 0);
        }
        for (int party = 0; party < 6; party++) {
            edges.is("0", x.least(party, 0), 9);
            edges.is("told", x.told(20 + party), 0);
        }
        edges.says("5: NONE");
        for (int no : new int[] {-1, 6, LOW, HIGH}) {
            edges.keeps("party " + no, NONE, y -> y.least(no, 1));
            edges.keeps("party, n too, " + no, NONE, y -> y.least(no, 10));
        }
        edges.says("5: BAD");
        for (int no : new int[] {-1, 10, LOW, HIGH}) {
            edges.keeps("n " + no, BAD, y -> y.least(0, no));
            edges.keeps("n of the last " + no, BAD, y -> y.least(5, no));
        }
    }

    private static void lists() {
        edges.says("6: A PARTY is of a LIST (0 .. 5): of which it was");
        SeatHouse x = new SeatHouse();
        for (int party = 0; party < 6; party++) {
            edges.is("from its own", x.join(party, 5 - party), party);
        }
        for (int party = 0; party < 6; party++) {
            edges.is("all in one", x.join(party, 0), 5 - party);
            edges.is("told", x.told(30 + party), 0);
        }
        edges.says("6: NONE: either");
        for (int no : new int[] {-1, 6, LOW, HIGH}) {
            edges.keeps("party " + no, NONE, y -> y.join(no, 0));
            edges.keeps("list " + no, NONE, y -> y.join(0, no));
            edges.keeps("both " + no, NONE, y -> y.join(no, no));
        }
    }

    private static void theBar() {
        edges.says("7: THE BAR (0 .. 500): what it was");
        SeatHouse x = new SeatHouse();
        edges.is("500", x.bar(500), 0);
        edges.is("0", x.bar(0), 500);
        edges.is("told", x.told(3), 0);
        edges.says("7: BAD");
        for (int no : new int[] {-1, 501, LOW, HIGH}) {
            edges.keeps("bar " + no, BAD, y -> y.bar(no));
        }
    }

    private static void ways() {
        edges.says("8: WAY (0 .. 6): what it was");
        SeatHouse x = new SeatHouse();
        for (int way = 1; way <= 6; way++) {
            edges.is("way " + way, x.way(way), way - 1);
            edges.is("told", x.told(2), way);
        }
        edges.is("from the last to the first", x.way(0), 6);
        edges.says("8: NONE");
        for (int no : new int[] {-1, 7, LOW, HIGH}) {
            edges.keeps("way " + no, NONE, y -> y.way(no));
        }
    }

    private static void toldMarks() {
        edges.says("9: TOLD is a by b: 1 (0 .. 99 by 1 .. 99, a not above b)");
        int[][] may = {{0, 1}, {1, 1}, {0, 99}, {98, 99}, {99, 99}};
        for (int[] told : may) {
            SeatHouse x = new SeatHouse();
            edges.is(told[0] + " by " + told[1], x.tell(told[0], told[1]), 1);
            edges.is("a", x.told(4), told[0]);
            edges.is("b", x.told(5), told[1]);
        }
        edges.says("9: BAD");
        int[][] mayNot = {{-1, 1}, {-1, 99}, {0, 0}, {1, 0}, {0, -1}, {-2, -1}, {2, 1}, {99, 98}, {0, 100}, {99, 100},
            {100, 100}, {100, 99}, {LOW, 1}, {HIGH, HIGH}, {0, LOW}, {0, HIGH}};
        for (int[] told : mayNot) {
            edges.keeps(told[0] + " by " + told[1], BAD, y -> y.tell(told[0], told[1]));
        }
    }

    private static void feeding() {
        edges.says("10: A byte (1 .. 127) comes behind THE TAPE's: how many it has");
        SeatHouse x = new SeatHouse();
        edges.is("1", x.feed(1), 1);
        edges.is("127", x.feed(127), 2);
        edges.is("1 .. 127 stand there", x.told(6), 2);
        edges.says("10: BAD");
        for (int no : new int[] {0, 128, -1, 256 + 49, LOW, HIGH}) {
            edges.keeps("byte " + no, BAD, y -> y.feed(no));
        }
        edges.says("Terms 3: THE TAPE holds 0 .. 120 bytes; 10: FULL");
        String full = "11111,2222,3333,4444,5555,6666/1111,2222,3333,4444,5555,6666/"
                + "1111,2222,3333,4444,5555,6666/1111,2222,3333,4444,5555,6666";
        edges.is("bytes of the text", full.length(), 120);
        x = new SeatHouse();
        for (int i = 0; i < 120; i++) {
            edges.is("byte " + i, x.feed(full.charAt(i)), i + 1);
        }
        edges.is("byte 120", x.feed('7'), FULL);
        edges.is("a byte that may not be", x.feed(128), BAD);
        edges.is("byte 120 again", x.feed(','), FULL);
        edges.is("it has as many", x.told(6), 120);
        edges.is("all of them are read, no other", x.read(0), 24);
        edges.is("the first", x.votes(0, 0), 11111);
        edges.is("the last", x.votes(3, 5), 6666);
        edges.is("empty behind it", x.feed('1'), 1);
    }

    private static void clearing() {
        edges.says("11: THE TAPE is empty then: how many bytes it had");
        SeatHouse x = new SeatHouse();
        edges.is("empty", x.clear(), 0);
        Scene.feed(x, "12");
        edges.is("two", x.clear(), 2);
        edges.is("told", x.told(6), 0);
        edges.is("nothing to be read", x.read(0), -100);
        for (int i = 1; i <= 120; i++) {
            x.feed('8');
        }
        edges.is("full", x.clear(), 120);
        edges.is("no byte of it is left", x.feed('3'), 1);
        edges.is("read", x.read(0), 1);
        edges.is("the new one alone", x.votes(0, 0), 3);
    }

    private static void readingFromAWard() {
        edges.says("12: NONE (THE TAPE stays)");
        for (int no : new int[] {-1, 4, LOW, HIGH}) {
            edges.keeps("ward " + no, NONE, y -> y.read(no));
        }
        edges.says("12: THE TAPE is VOTES from a WARD on: how many numbers");
        for (int ward = 0; ward < 4; ward++) {
            SeatHouse x = new SeatHouse();
            Scene.feed(x, "7,8");
            edges.is("from " + ward, x.read(ward), 2);
            edges.is("party 0", x.votes(ward, 0), 7);
            edges.is("party 1", x.votes(ward, 1), 8);
            edges.is("no others", x.votes(-1, -1), 15);
        }
    }

    /** What a text answers on a new house, from a ward on; the tape must be empty behind it. */
    private static void reads(String text, int ward, int want) {
        SeatHouse x = new SeatHouse();
        Scene.feed(x, text);
        edges.is("\"" + text + "\" from " + ward, x.read(ward), want);
        edges.is("the tape behind \"" + text + "\"", x.told(6), 0);
        if (want < 0) {
            edges.is("votes behind \"" + text + "\"", x.votes(-1, -1), 0);
        }
    }

    private static void oneNumber() {
        edges.says("Terms 3: 1 to 6 figures, 100000 at most");
        reads("0", 0, 1);
        reads("9", 0, 1);
        reads("000000", 0, 1);
        reads("099999", 0, 1);
        reads("100000", 0, 1);
        reads("100001", 0, -100);
        reads("999999", 0, -100);
        reads("5,100000", 0, 2);
        reads("5,100001", 0, -102);
        reads("5/100001", 0, -102);
        reads("1,2,3,4,5,100001", 0, -110);
        edges.says("Terms 3: six at most are taken, and looked at ahead of the byte behind");
        reads("0000001", 0, -106);
        reads("1000000", 0, -106);
        reads("1000009", 0, -106);
        reads("1000010", 0, -100);
        reads("1234567", 0, -100);
        reads("99999,0000001", 0, -112);
        SeatHouse x = new SeatHouse();
        Scene.feed(x, "000012,100000");
        edges.is("read", x.read(0), 2);
        edges.is("figures from the left", x.votes(0, 0), 12);
        edges.is("the most", x.votes(0, 1), 100000);
    }

    private static void manyNumbers() {
        edges.says("Terms 3: of each 1 to 6 numbers");
        reads("1", 0, 1);
        reads("1,2,3,4,5,6", 0, 6);
        reads("1,2,3,4,5,6/1,2,3,4,5,6/1,2,3,4,5,6/1,2,3,4,5,6", 0, 24);
        reads("1/2,3,4,5,6,7/8/9", 0, 9);
        reads("/1", 0, -100);
        reads("1//2", 0, -102);
        edges.says("Terms 3: (the , behind a sixth can't stand)");
        reads("1,2,3,4,5,6,", 0, -111);
        reads("1,2,3,4,5,6,7", 0, -111);
        reads("1,2,3,4,5,6,100001", 0, -111);
        reads("1/1,2,3,4,5,6,7", 0, -113);
        reads("1,2,3,4,5,6,7", 3, -111);
        edges.says("Terms 3: VOTES of PARTIES 0, 1, .. (others stay)");
        SeatHouse x = Scene.with("1,2,3,4,5,6/1,2,3,4,5,6/1,2,3,4,5,6/1,2,3,4,5,6");
        Scene.feed(x, "70/80,90");
        edges.is("read", x.read(1), 3);
        int[] want = {1, 2, 3, 4, 5, 6, 70, 2, 3, 4, 5, 6, 80, 90, 3, 4, 5, 6, 1, 2, 3, 4, 5, 6};
        for (int i = 0; i < 24; i++) {
            edges.is("votes " + i, x.votes(i / 6, i % 6), want[i]);
        }
    }

    private static void manyWards() {
        edges.says("Terms 3: WARDS, one or more, from a told one on, with / between; "
                + "FAULT: of a WARD that there isn't, where it begins");
        reads("1/2/3/4", 0, 4);
        reads("1/2/3/4/5", 0, -108);
        reads("1/2/3/4/", 0, -108);
        reads("1/2/3/4/x", 0, -108);
        reads("1/2/3", 1, 3);
        reads("1/2/3/4", 1, -106);
        reads("1/2", 2, 2);
        reads("1/2/3", 2, -104);
        reads("1", 3, 1);
        reads("1/2", 3, -102);
        reads("1/", 3, -102);
        reads("1,2,3,4,5,6/7", 3, -112);
    }

    private static void endsTooEarly() {
        edges.says("Terms 3: FAULT: the length, if it ends too early");
        reads("", 0, -100);
        reads("", 3, -100);
        reads("1,", 0, -102);
        reads("1,2,3,4,5,", 0, -110);
        reads("1/", 0, -102);
        reads("1/2/3/", 0, -106);
        reads("1,2,3,4,5,6/", 0, -112);
        StringBuilder longest = new StringBuilder("000001,000002,000003,000004,000005,000006/");
        longest.append("000001,000002,000003,000004,000005,000006/000001,000002,000003,000004,00005,");
        edges.is("bytes", longest.length(), 118);
        reads(longest.toString(), 0, -218);
    }

    private static void otherBytes() {
        edges.says("Terms 3: (no blanks stand anywhere)");
        reads(" 1", 0, -100);
        reads("1 ", 0, -101);
        reads("1 ,2", 0, -101);
        reads("1, 2", 0, -102);
        reads("1/ 2", 0, -102);
        edges.says("Terms 3: FAULT: the place of the first byte with which no such text goes on");
        reads(",", 0, -100);
        reads("-1", 0, -100);
        reads("+1", 0, -100);
        reads(":", 0, -100);
        reads("1:", 0, -101);
        reads("1.5", 0, -101);
        reads("1a", 0, -101);
        reads("a", 0, -100);
        reads("12345a", 0, -105);
        reads("123456a", 0, -100);
        reads("1,,2", 0, -102);
        reads("1,/2", 0, -102);
        reads("1/,2", 0, -102);
        for (int letter = 1; letter < 128; letter++) {
            boolean figure = letter >= '0' && letter <= '9';
            boolean between = letter == ',' || letter == '/';
            reads("1" + (char) letter + "1", 0, figure ? 1 : between ? 2 : -101);
            reads((char) letter + "", 0, figure ? 1 : -100);
        }
    }

    private static void leftmostFault() {
        edges.says("Terms 3: FAULT of a text (the first that is met from the left)");
        reads("100001,x", 0, -100);
        reads("1x,100001", 0, -101);
        reads("100001x", 0, -100);
        reads("1/2,100001/x", 0, -104);
        reads("1/2x/100001", 0, -103);
        reads("5/100001", 3, -102);
        reads("5x/6", 3, -101);
        reads("1,,100001", 0, -102);
    }

    private static void faultDoesNothing() {
        edges.says("Terms 3: A text with a FAULT does nothing; THE TAPE is empty behind each call that reads it");
        for (String text : new String[] {"9,9,9/9,x", "9,100001", "9/9/9/9/9", "9,9,9,9,9,9,9", "9,", ""}) {
            edges.keeps(Scene::busy, "\"" + text + "\", the tape cleared and told anew", 1, y -> {
                y.clear();
                Scene.feed(y, text);
                int answer = y.read(0);
                int left = y.told(6);
                Scene.feed(y, "71,82");
                return answer <= -100 && left == 0 ? 1 : answer;
            });
        }
    }

    private static void whatIsTold() {
        edges.says("35: told");
        SeatHouse x = Scene.busy();
        int[] first = {427, 14, 5, 20, 1, 3, 5, 11, 15, 15, 3, 4, 5, 2};
        for (int what = 0; what < first.length; what++) {
            edges.is("what " + what, x.told(what), first[what]);
        }
        int[] leasts = {0, 0, 0, 1, 0, 0};
        int[] lists = {0, 1, 2, 3, 4, 0};
        for (int party = 0; party < 6; party++) {
            edges.is("least of " + party, x.told(20 + party), leasts[party]);
            edges.is("list of " + party, x.told(30 + party), lists[party]);
        }
        edges.says("35: NONE");
        for (int no : new int[] {-1, 14, 15, 19, 26, 27, 28, 29, 36, 37, 100, LOW, HIGH}) {
            edges.keeps("what " + no, NONE, y -> y.told(no));
        }
        edges.says("35: 1 H (SEATS added up, also above 60)");
        Scene.seats(x, 30, 30, 30, 30);
        edges.is("most", x.told(1), 120);
        Scene.seats(x, 0, 0, 0, 0);
        edges.is("none", x.told(1), 0);
        edges.says("35: 9 WARDS with SEATS");
        edges.is("none", x.told(9), 0);
        for (int ward = 0; ward < 4; ward++) {
            x.seats(ward, 1);
            edges.is("up to " + ward, x.told(9), (2 << ward) - 1);
        }
        edges.says("35: 8 LISTS with a PARTY that is IN");
        for (int party = 0; party < 6; party++) {
            SeatHouse y = new SeatHouse();
            y.vote(3, party, 1);
            edges.is("of one PARTY alone " + party, y.told(8), 1 << party);
        }
        x.bar(0);
        edges.is("without a bar", x.told(8), 1 | 2 | 4 | 8);
        x.join(3, 5);
        edges.is("the last list", x.told(8), 1 | 2 | 4 | 32);
        x.join(4, 3);
        edges.is("a party without votes", x.told(8), 1 | 2 | 4 | 32);
        x.bar(500);
        edges.is("nobody", x.told(8), 0);
    }

    private static void askedChangesNothing() {
        edges.says("Answers: what is asked changes nothing");
        edges.keeps("told", 427, y -> y.told(0));
        edges.keeps("votes", 50, y -> y.votes(0, 0));
        edges.keeps("TOTAL", 115, y -> y.votes(-1, 0));
        edges.keeps("of a WARD", 119, y -> y.votes(0, -1));
        edges.keeps("ALL", 427, y -> y.votes(-1, -1));
    }
}
