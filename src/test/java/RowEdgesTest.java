/** Promises 36 to 41 (rows, the image), and the calls of one object: each sentence that names a boundary case. */
public final class RowEdgesTest {
    private static final int NONE = -1;
    private static final int BAD = -2;
    private static final int STATE = -3;
    private static final int OVER = -6;
    private static final int NOTHING = -11;
    private static final int BEYOND = -13;
    private static final int BELOW = -14;
    private static final long NO = Edges.NO;
    private static final int LOW = Edges.LOW;
    private static final int HIGH = Edges.HIGH;
    private static final int[] NO_ROW = {-1, 4, LOW, HIGH};
    private static final Edges edges = new Edges("RowEdgesTest");

    public static void main(String[] args) {
        sizes();
        allZeros();
        places();
        numbers();
        laidWhole();
        laidInPart();
        refusedToLay();
        images();
        undone();
        imageStays();
        whatUndoLeaves();
        fiveHundredAndTwelve();
        edges.end();
    }

    private static void sizes() {
        edges.says("36: A ROW becomes a row of n ints (0 .. 40): 1");
        for (int row = 0; row < 4; row++) {
            for (int n : new int[] {0, 1, 39, 40, 24, 0}) {
                SeatHouse x = new SeatHouse();
                edges.is("row " + row + " of " + n, x.row(row, n), 1);
                edges.is("last of " + n, x.set(row, n - 1, 7), n == 0 ? BEYOND : 1);
                edges.is("behind " + n, x.set(row, n, 7), BEYOND);
                edges.is("last of " + n + " is got", x.get(row, n - 1), n == 0 ? NO : 7);
                edges.is("behind " + n + " is got", x.get(row, n), NO);
                edges.is("another row has nothing", x.set(3 - row, 0, 1), NOTHING);
            }
        }
        edges.says("36: NONE: row");
        for (int no : NO_ROW) {
            edges.keeps("row " + no, NONE, y -> y.row(no, 3));
            edges.keeps("row, n above too, " + no, NONE, y -> y.row(no, 41));
            edges.keeps("row, n below too, " + no, NONE, y -> y.row(no, -1));
        }
        edges.says("36: BAD: n above 40");
        for (int no : new int[] {41, 42, HIGH}) {
            edges.keeps("n " + no, BAD, y -> y.row(0, no));
            edges.keeps("n of a ROW with nothing " + no, BAD, y -> y.row(3, no));
        }
        edges.says("36: BELOW: a size below 0");
        for (int no : new int[] {-1, -2, LOW}) {
            edges.keeps("n " + no, BELOW, y -> y.row(0, no));
            edges.keeps("n of a ROW with nothing " + no, BELOW, y -> y.row(3, no));
        }
    }

    private static void allZeros() {
        edges.says("36: all 0");
        SeatHouse x = new SeatHouse();
        x.row(1, 40);
        x.row(2, 40);
        for (int i = 0; i < 40; i++) {
            edges.is("at first " + i, x.get(1, i), 0);
            x.set(1, i, i + 1);
            x.set(2, i, -i - 1);
        }
        x.row(1, 20);
        x.row(1, 40);
        for (int i = 0; i < 40; i++) {
            edges.is("of a row that was there before " + i, x.get(1, i), 0);
            edges.is("another row stays " + i, x.get(2, i), -i - 1);
        }
        x.row(2, 0);
        edges.is("a row of 0 in place of one of 40", x.get(2, 0), NO);
        edges.is("it is there, without a place", x.set(2, 0, 1), BEYOND);
    }

    private static void places() {
        edges.says("37: NONE; NOTHING; BEYOND");
        for (int no : NO_ROW) {
            edges.keeps("row " + no, NONE, y -> y.set(no, 0, 1));
            edges.keeps("row, place too, " + no, NONE, y -> y.set(no, -1, 1));
        }
        for (int i : new int[] {-1, 0, 40, LOW, HIGH}) {
            edges.keeps("a ROW with nothing, place " + i, NOTHING, y -> y.set(3, i, 1));
        }
        for (int no : new int[] {-1, 40, 41, LOW, HIGH}) {
            edges.keeps("place " + no + " of 40", BEYOND, y -> y.set(0, no, 1));
        }
        for (int no : new int[] {-1, 30, 31, LOW, HIGH}) {
            edges.keeps("place " + no + " of 30", BEYOND, y -> y.set(1, no, 1));
        }
        for (int no : new int[] {-1, 0, 1, LOW, HIGH}) {
            edges.keeps("place " + no + " of 0", BEYOND, y -> y.set(2, no, 1));
        }
        edges.says("38: NO: no such ROW, nothing there, no such place");
        for (int no : NO_ROW) {
            edges.keeps("row " + no, NO, y -> y.get(no, 0));
        }
        for (int i : new int[] {-1, 0, 40, LOW, HIGH}) {
            edges.keeps("a ROW with nothing, place " + i, NO, y -> y.get(3, i));
        }
        for (int no : new int[] {-1, 40, 41, LOW, HIGH}) {
            edges.keeps("place " + no + " of 40", NO, y -> y.get(0, no));
        }
        for (int no : new int[] {-1, 30, 31, LOW, HIGH}) {
            edges.keeps("place " + no + " of 30", NO, y -> y.get(1, no));
        }
        for (int no : new int[] {-1, 0, 1, LOW, HIGH}) {
            edges.keeps("place " + no + " of 0", NO, y -> y.get(2, no));
        }
        edges.says("Answers: what is asked changes nothing");
        edges.keeps("get", 8, y -> y.get(0, 39));
    }

    private static void numbers() {
        edges.says("37: Place i of a ROW becomes v: 1 (any int)");
        SeatHouse x = new SeatHouse();
        x.row(0, 3);
        for (int v : new int[] {0, 1, -1, LOW, HIGH}) {
            edges.is("set " + v, x.set(0, 1, v), 1);
            edges.is("get " + v, x.get(0, 1), v);
            edges.is("ahead of it", x.get(0, 0), 0);
            edges.is("behind it", x.get(0, 2), 0);
        }
    }

    /** Two WARDS of which the PLAN is 0,1 and 1,0, and row 0 of n ints, all 9. */
    private static SeatHouse nines(int n) {
        SeatHouse x = Scene.with("1,10/10,1");
        Scene.seats(x, 1, 1);
        x.row(0, n);
        for (int i = 0; i < n; i++) {
            x.set(0, i, 9);
        }
        return x;
    }

    private static String rowOf(SeatHouse x) {
        StringBuilder text = new StringBuilder();
        for (int i = 0; x.get(0, i) != NO; i++) {
            text.append(x.get(0, i));
        }
        return text.toString();
    }

    private static void laidWhole() {
        edges.says("39: THE PLAN is LAID into a ROW from i on: 24");
        SeatHouse x = nines(24);
        edges.is("a row of 24", x.lay(0, 0), 24);
        edges.is("row", rowOf(x), "010000100000000000000000");
        x = nines(40);
        edges.is("from 0 of 40", x.lay(0, 0), 24);
        edges.is("row", rowOf(x), "0100001000000000000000009999999999999999");
        x = nines(40);
        edges.is("from 16 of 40", x.lay(0, 16), 24);
        edges.is("row", rowOf(x), "9999999999999999010000100000000000000000");
        x = nines(26);
        edges.is("from 1 of 26", x.lay(0, 1), 24);
        edges.is("row", rowOf(x), "90100001000000000000000009");
        edges.is("solved without solve()", x.solve(), 1);
        x = Scene.with("1");
        x.seats(0, 30);
        x.row(0, 24);
        edges.is("no RING was done", x.lay(0, 0), 24);
        edges.is("row", rowOf(x), "3000000000000000000000000");
    }

    private static void laidInPart() {
        edges.says("39: BEYOND: not all were (those that had a place are there all the same)");
        SeatHouse x = nines(23);
        edges.is("a row of 23", x.lay(0, 0), BEYOND);
        edges.is("row", rowOf(x), "01000010000000000000000");
        x = nines(40);
        edges.is("from 17 of 40", x.lay(0, 17), BEYOND);
        edges.is("row", rowOf(x), "9999999999999999901000010000000000000000");
        x = nines(40);
        edges.is("from 39 of 40", x.lay(0, 39), BEYOND);
        edges.is("row", rowOf(x), "9999999999999999999999999999999999999990");
        x = nines(40);
        edges.is("from 40 of 40", x.lay(0, 40), BEYOND);
        edges.is("row of nines", rowOf(x), rowOf(nines(40)));
        x = nines(2);
        edges.is("a row of 2", x.lay(0, 0), BEYOND);
        edges.is("row", rowOf(x), "01");
        x = nines(0);
        edges.is("a row of 0", x.lay(0, 0), BEYOND);
        edges.is("row", rowOf(x), "");
        edges.says("39: BEYOND: (none, if i is below 0)");
        for (int no : new int[] {-1, -23, -24, LOW, LOW + 23}) {
            x = nines(40);
            edges.is("from " + no, x.lay(0, no), BEYOND);
            edges.is("row of nines", rowOf(x), rowOf(nines(40)));
        }
        for (int no : new int[] {41, HIGH - 23, HIGH - 1, HIGH}) {
            x = nines(40);
            edges.is("from " + no, x.lay(0, no), BEYOND);
            edges.is("row of nines", rowOf(x), rowOf(nines(40)));
        }
        edges.keeps("from -1 of busy's", BEYOND, y -> y.lay(1, -1));
        edges.keeps("from 40 of busy's", BEYOND, y -> y.lay(0, 40));
        edges.keeps("again where it is", 24, y -> y.lay(1, 3));
        edges.keeps("a row of 0", BEYOND, y -> y.lay(2, 0));
    }

    private static void refusedToLay() {
        edges.says("39: NONE; NOTHING; STATE; OVER; BEYOND");
        for (int no : NO_ROW) {
            edges.keeps("row " + no, NONE, y -> y.lay(no, 0));
            edges.keeps(Scene::planless, "row, no plan, place " + no, NONE, y -> y.lay(no, -1));
        }
        edges.keeps("nothing", NOTHING, y -> y.lay(3, 0));
        edges.keeps("nothing, place", NOTHING, y -> y.lay(3, -1));
        edges.keeps(Scene::planless, "nothing, no plan", NOTHING, y -> y.lay(3, 0));
        edges.keeps(Scene::over, "nothing, OVER", NOTHING, y -> y.lay(3, 0));
        for (int i : new int[] {0, -1, 20, 40, LOW, HIGH}) {
            edges.keeps(Scene::planless, "no plan, place " + i, STATE, y -> y.lay(0, i));
            edges.keeps(Scene::over, "OVER, place " + i, OVER, y -> y.lay(0, i));
        }
    }

    private static void images() {
        edges.says("40: THE IMAGE is taken: ALL");
        SeatHouse x = new SeatHouse();
        edges.is("of nothing", x.image(), 0);
        x.vote(0, 0, 9);
        x.seats(3, 30);
        x.least(5, 9);
        x.join(0, 5);
        x.bar(500);
        x.way(6);
        x.tell(99, 99);
        edges.is("undone", x.undo(), 0);
        edges.is("VOTES", x.votes(-1, -1), 0);
        edges.is("SEATS", x.told(13), 0);
        edges.is("LEASTS", x.told(25), 0);
        edges.is("LISTS", x.told(30), 0);
        edges.is("THE BAR", x.told(3), 0);
        edges.is("WAY", x.told(2), 0);
        edges.is("TOLD, a", x.told(4), 1);
        edges.is("TOLD, b", x.told(5), 2);
        for (int i = 0; i < 24; i++) {
            x.vote(i / 6, i % 6, 100000);
        }
        edges.is("the most", x.image(), 2400000);
        edges.is("undone at once", x.undo(), 2400000);
        edges.says("40: nothing else changes");
        edges.keeps(() -> {
            SeatHouse y = Scene.busy();
            y.image();
            return y;
        }, "the same again", 427, y -> y.image());
    }

    private static void undone() {
        edges.says("41: STATE: there is none");
        SeatHouse x = Scene.with("9");
        edges.is("none", x.undo(), STATE);
        edges.is("nothing has changed", x.votes(0, 0), 9);
        edges.is("none again", x.undo(), STATE);
        edges.says("41: All is as THE IMAGE: ALL (each of VOTES, SEATS, LEASTS, LISTS, THE BAR, WAY, TOLD)");
        x = new SeatHouse();
        for (int i = 0; i < 24; i++) {
            x.vote(i / 6, i % 6, 100 + i);
        }
        Scene.seats(x, 1, 2, 3, 4);
        for (int party = 0; party < 6; party++) {
            x.least(party, party + 1);
            x.join(party, 5 - party);
        }
        x.bar(11);
        x.way(2);
        x.tell(13, 17);
        edges.is("taken", x.image(), 2676);
        for (int i = 0; i < 24; i++) {
            x.vote(i / 6, i % 6, 7);
        }
        Scene.seats(x, 9, 9, 9, 9);
        for (int party = 0; party < 6; party++) {
            x.least(party, 0);
            x.join(party, party);
        }
        x.bar(12);
        x.way(3);
        x.tell(14, 18);
        edges.is("undone", x.undo(), 2676);
        for (int i = 0; i < 24; i++) {
            edges.is("VOTES " + i, x.votes(i / 6, i % 6), 100 + i);
        }
        for (int ward = 0; ward < 4; ward++) {
            edges.is("SEATS", x.told(10 + ward), ward + 1);
        }
        for (int party = 0; party < 6; party++) {
            edges.is("LEAST", x.told(20 + party), party + 1);
            edges.is("LIST", x.told(30 + party), 5 - party);
        }
        edges.is("THE BAR", x.told(3), 11);
        edges.is("WAY", x.told(2), 2);
        edges.is("a", x.told(4), 13);
        edges.is("b", x.told(5), 17);
    }

    private static void imageStays() {
        edges.says("41: THE IMAGE is what it was when taken, and stays by undo()");
        SeatHouse x = Scene.with("5");
        x.image();
        x.vote(0, 0, 6);
        edges.is("first", x.undo(), 5);
        x.vote(0, 0, 7);
        edges.is("second", x.undo(), 5);
        edges.is("third at once", x.undo(), 5);
        x.vote(0, 0, 8);
        edges.is("another", x.image(), 8);
        x.vote(0, 0, 9);
        edges.is("the latest one counts", x.undo(), 8);
        Scene.feed(x, "1,2/3,x");
        x.read(0);
        edges.is("a text with a FAULT", x.undo(), 8);
        Scene.feed(x, "1,2/3");
        x.read(0);
        edges.is("a text", x.votes(-1, -1), 6);
        edges.is("undone", x.undo(), 8);
        edges.is("asked for what would be", x.would(0, 1, 50, 1), 1);
        edges.is("and needed", x.needs(0, 1, 1), 9);
        edges.is("it stays", x.undo(), 8);
    }

    private static void whatUndoLeaves() {
        edges.says("Terms 3: (THE TAPE, THE PAPER, ROWS stay by undo())");
        SeatHouse x = Scene.with("5,4");
        x.spell(9);
        x.row(0, 2);
        x.set(0, 0, 3);
        Scene.feed(x, "8");
        x.image();
        x.vote(0, 0, 0);
        x.spell(60);
        x.row(0, 3);
        x.set(0, 0, 4);
        x.row(1, 5);
        Scene.feed(x, "7");
        edges.is("undone", x.undo(), 9);
        edges.is("bytes of THE PAPER", x.told(7), 12);
        edges.is("THE PAPER", Scene.paperOf(x), "0,60,0,0,0,0");
        edges.is("size", x.get(0, 2), 0);
        edges.is("ROW 0", x.get(0, 0), 4);
        edges.is("ROW 1", x.get(1, 4), 0);
        edges.is("bytes of THE TAPE", x.told(6), 2);
        edges.is("THE TAPE is read", x.read(3), 1);
        edges.is("VOTES of it", x.votes(3, 0), 87);
    }

    private static void fiveHundredAndTwelve() {
        edges.says("An object is used for at most 512 calls after it has been made");
        SeatHouse x = new SeatHouse();
        for (int call = 1; call <= 512; call++) {
            edges.is("call " + call, x.vote(3, 5, call), call - 1);
        }
        x = new SeatHouse();
        for (int call = 1; call <= 512; call++) {
            edges.is("image and undo, call " + call, call % 2 == 1 ? x.image() : x.undo(), 0);
        }
        x = new SeatHouse();
        for (int call = 1; call <= 512; call++) {
            edges.is("rows, call " + call, call % 2 == 1 ? x.row(call % 4, 40) : x.set((call - 1) % 4, 39, 1), 1);
        }
        // a dear one: every second call makes a plan of some hundred RINGS anew
        x = Scene.with("131,33,458,1156,1847,164/836,1465,1937,1940,1985,1982");
        Scene.feed(x, "69,1987,1880,1166,467,1990/1598,1692,72,680,444,14");
        x.read(2);
        Scene.seats(x, 15, 15, 15, 15);
        int first = x.solve();
        for (int call = 113; call < 512; call += 2) {
            edges.is("way, call " + call, x.way(0), 0);
            edges.is("solve, call " + (call + 1), x.solve(), first);
        }
    }
}
