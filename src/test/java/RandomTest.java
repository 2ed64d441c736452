import java.lang.reflect.Method;
import java.util.ArrayList;
import java.util.Collections;
import java.util.List;
import java.util.Random;

/** Runs of random calls, always the same ones, in which SeatHouse must answer as Model does. */
public final class RandomTest {
    private static final String[] MUTE = {"vote", "seats", "least", "join", "bar", "way", "tell"};
    private static final int RUNS = 700;
    private static final int CALLS = 250;

    private final Random random;
    private final Due due;
    private final int run;
    private final Twins twins;
    private final Model model;
    private final int votesKind;

    private RandomTest(int run, Due due) {
        this.run = run;
        this.due = due;
        twins = new Twins("run " + run, due);
        model = twins.model;
        random = new Random(77777L + run);
        votesKind = random.nextInt(8);
    }

    public static void main(String[] args) {
        Due due = new Due("RandomTest");
        int runs = args.length > 0 ? Integer.parseInt(args[0]) : RUNS;
        int from = args.length > 1 ? Integer.parseInt(args[1]) : 0;
        for (int run = from; run < from + runs && due.wrong() == 0; run++) {
            new RandomTest(run, due).play();
        }
        due.end();
    }

    private void play() {
        int before = due.wrong();
        if (random.nextInt(5) > 0) {
            begin();
        }
        while (twins.calls.size() < CALLS && due.wrong() == before) {
            step();
        }
        if (due.wrong() != before) {
            System.out.println("run " + run + ": " + twins.calls);
        }
    }

    private void begin() {
        for (int ward = 0; ward < 4; ward++) {
            for (int party = 0; party < 6; party++) {
                ask("vote", ward, party, votesKind == 6 ? votesOnARing(ward, party) : someVotes());
            }
            ask("seats", ward, random.nextInt(random.nextBoolean() ? 18 : 6));
        }
        ask("way", votesKind < 6 ? random.nextInt(7) : List.of(0, 1, 2, 5).get(random.nextInt(4)));
        if (random.nextInt(3) == 0) {
            ask("tell", random.nextInt(50), 50 + random.nextInt(50));
        }
    }

    /** Votes that often leave no ring of two BETTER, but a longer one. */
    private int votesOnARing(int ward, int party) {
        int turn = (party - ward + 4) % 4;
        return turn == 0 ? 6 + random.nextInt(9) : turn == 3 ? 1 + random.nextInt(9) : random.nextInt(5) / 4;
    }

    private int someVotes() {
        return switch (votesKind) {
            case 0 -> random.nextInt(4);
            case 1 -> random.nextInt(100001);
            case 2 -> 99990 + random.nextInt(11);
            case 3 -> random.nextInt(3) == 0 ? 0 : random.nextInt(1000);
            case 4 -> random.nextInt(3) == 0 ? 0 : 40000 + random.nextInt(60000);
            case 7 -> 1000 + random.nextInt(4000);
            default -> 10 * random.nextInt(12);
        };
    }

    private void step() {
        switch (random.nextInt(24)) {
            case 0, 1 -> change();
            case 2 -> readText();
            case 3, 4 -> rowsAndJudging();
            case 5 -> wholeHouse();
            case 6 -> wholePlan();
            case 7, 8 -> wild();
            case 9 -> ask("loses", near(30), 20 + near(60));
            case 10 -> ask(random.nextInt(4) == 0 ? "needs" : "votes", near(4), near(6), near(60));
            case 11 -> ask("would", near(4), near(6), random.nextInt(9) == 0 ? near(100001) : someVotes(), near(60));
            case 12 -> ask("price", near(6), 1 + near(60), near(2));
            case 13 -> ask("span", near(60), near(2), near(2));
            case 14 -> ask("quota", near(61));
            case 15 -> ask("alike", near(61));
            case 16 -> ask("differ", near(61), near(7), near(7));
            case 17 -> ask("tie", near(61));
            case 18 -> ask("given", near(61), near(61));
            case 19 -> ask("list", near(61), near(6));
            case 20 -> ask("loser", near(61));
            case 21 -> ask("told", random.nextInt(40) - 1);
            case 22 -> ask(random.nextInt(3) == 0 ? "image" : "in");
            default -> ask(random.nextInt(6) == 0 ? "undo" : "moved");
        }
    }

    /** Mostly 0 .. n - 1, now and then just outside or far away. */
    private int near(int n) {
        return switch (random.nextInt(40)) {
            case 0 -> -1;
            case 1 -> n;
            case 2 -> random.nextInt();
            default -> random.nextInt(n);
        };
    }

    private void change() {
        switch (MUTE[random.nextInt(MUTE.length)]) {
            case "vote" -> ask("vote", near(4), near(6), random.nextInt(9) == 0 ? near(100001) : someVotes());
            case "seats" -> ask("seats", near(4), near(random.nextInt(3) == 0 ? 31 : 12));
            case "least" -> ask("least", near(6), near(random.nextInt(3) == 0 ? 10 : 3));
            case "join" -> ask("join", near(6), near(6));
            case "bar" -> ask("bar", random.nextBoolean() ? 0 : near(random.nextBoolean() ? 501 : 150));
            case "way" -> ask("way", near(7));
            default -> ask("tell", near(random.nextBoolean() ? 100 : 2), 1 + near(99));
        }
    }

    private void readText() {
        StringBuilder text = new StringBuilder();
        int wards = 1 + random.nextInt(4);
        for (int w = 0; w < wards; w++) {
            text.append(w == 0 ? "" : "/");
            int numbers = 1 + random.nextInt(random.nextInt(12) == 0 ? 7 : 6);
            for (int p = 0; p < numbers; p++) {
                text.append(p == 0 ? "" : ",").append(random.nextInt(60) == 0 ? 100001 : someVotes());
            }
        }
        if (random.nextInt(3) == 0) {
            int at = random.nextInt(text.length() + 1);
            char letter = "0123456789,/ ,/0 -a".charAt(random.nextInt(19));
            if (random.nextBoolean() || at == text.length()) {
                text.insert(at, letter);
            } else {
                text.setCharAt(at, letter);
            }
        }
        if (random.nextInt(9) == 0) {
            text.setLength(random.nextInt(text.length()));
        }
        for (int i = 0; i < text.length() && i < 122; i++) {
            ask("feed", text.charAt(i));
        }
        if (random.nextInt(9) == 0) {
            ask("clear");
        }
        ask("read", random.nextInt(3) == 0 ? near(4) : Math.max(0, 4 - wards));
    }

    private void wholeHouse() {
        int h = near(61);
        ask("spell", h);
        for (int i = -1; i < 18; i++) {
            ask("paper", i);
        }
        ask("house", h, near(6));
    }

    private void wholePlan() {
        ask("solve");
        if (random.nextInt(3) == 0) {
            ask("way", List.of(0, 1, 2, 5).get(random.nextInt(4)));
            ask("solve");
        }
        ask("cell", near(4), near(6));
        ask("spellPlan");
        for (int i = 0; i < 72; i++) {
            ask("paper", i);
        }
        for (int i = 0; i < 4; i++) {
            ask("bound", near(4), near(4), near(2));
        }
    }

    private void rowsAndJudging() {
        int row = near(4);
        int place = near(17);
        if (random.nextInt(4) > 0) {
            ask("row", row, random.nextInt(4) == 0 ? near(41) : 40);
        }
        if (random.nextBoolean()) {
            ask("lay", row, place);
        } else {
            setSeats(row, place);
        }
        for (int turn = random.nextInt(4); turn > 0; turn--) {
            shift(row, place);
        }
        if (random.nextInt(4) == 0) {
            ask("set", row, near(40), near(4));
        }
        for (int what = 0; what < 9; what++) {
            ask("judge", row, place, what);
        }
        ask("get", row, near(40));
    }

    /** Told seats with the sums that THE PLAN asks, filled in a random order. */
    private void setSeats(int row, int place) {
        int[] wards = new int[4];
        int[] parties = new int[6];
        int all = (int) model.told(1);
        List<Integer> cells = new ArrayList<>();
        for (int i = 0; i < 24; i++) {
            wards[i / 6] = (int) model.told(10 + i / 6);
            parties[i % 6] = (int) model.house(all, i % 6);
            cells.add(i);
        }
        Collections.shuffle(cells, random);
        if (parties[0] < 0) {
            return;
        }
        for (int cell : cells) {
            int n = Math.min(wards[cell / 6], parties[cell % 6]);
            wards[cell / 6] -= n;
            parties[cell % 6] -= n;
            ask("set", row, place + cell, n);
        }
    }

    /** Moves a seat round a ring of two, so that all sums stay. */
    private void shift(int row, int place) {
        int w1 = random.nextInt(4);
        int w2 = random.nextInt(4);
        int p1 = random.nextInt(6);
        int p2 = random.nextInt(6);
        int[] from = {place + 6 * w1 + p1, place + 6 * w2 + p2};
        int[] to = {place + 6 * w2 + p1, place + 6 * w1 + p2};
        if (w1 == w2 || p1 == p2 || model.get(row, from[0]) < 1 || model.get(row, from[1]) < 1
                || model.get(row, to[0]) < 0 || model.get(row, to[1]) < 0) {
            return;
        }
        for (int i = 0; i < 2; i++) {
            ask("set", row, from[i], (int) model.get(row, from[i]) - 1);
            ask("set", row, to[i], (int) model.get(row, to[i]) + 1);
        }
    }

    /** Any call with any arguments. */
    private void wild() {
        List<Method> face = Twins.face();
        Method method = face.get(random.nextInt(face.size()));
        int[] arguments = new int[method.getParameterCount()];
        for (int i = 0; i < arguments.length; i++) {
            arguments[i] = near(List.of(2, 4, 6, 10, 30, 60).get(random.nextInt(6)));
        }
        ask(method.getName(), arguments);
    }

    private void ask(String name, int... given) {
        twins.ask(name, given);
    }
}
