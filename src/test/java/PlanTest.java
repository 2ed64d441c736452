import java.util.ArrayList;
import java.util.Collections;
import java.util.List;
import java.util.Random;
import java.util.TreeMap;

/** Many small plans, always the same ones: solved, bounded and judged as Model does; longer RINGS and OVER among them. */
public final class PlanTest {
    private static final int PLANS = 4000;

    private final Random random;
    private final Due due;
    private final TreeMap<Integer, Integer> firstAnswers;
    private final SeatHouse house = new SeatHouse();
    private final Model model = new Model();
    private String story = "";

    private PlanTest(int plan, Due due, TreeMap<Integer, Integer> firstAnswers) {
        random = new Random(31L * plan + 5);
        this.due = due;
        this.firstAnswers = firstAnswers;
        story = "plan " + plan + ":";
    }

    public static void main(String[] args) {
        Due due = new Due("PlanTest");
        TreeMap<Integer, Integer> firstAnswers = new TreeMap<>();
        int plans = args.length > 0 ? Integer.parseInt(args[0]) : PLANS;
        for (int plan = 0; plan < plans && due.wrong() == 0; plan++) {
            new PlanTest(plan, due, firstAnswers).play();
        }
        System.out.println("PlanTest: first answers of judge: " + firstAnswers);
        for (int answer : new int[] {2, 3, 4, SeatHouse.OVER, -5}) {
            due.is("judge answers " + answer + " somewhere", firstAnswers.containsKey(answer) ? 1 : 0, 1);
        }
        due.end();
    }

    private void play() {
        tellVotes();
        is("solve", house.solve(), model.solve());
        is("moved", house.moved(), model.moved());
        for (int i = 0; i < 24; i++) {
            is("cell " + i, house.cell(i / 6, i % 6), model.cell(i / 6, i % 6));
        }
        for (int i = 0; i < 32; i++) {
            is("bound " + i, house.bound(i / 8, i / 2 % 4, i % 2), model.bound(i / 8, i / 2 % 4, i % 2));
        }
        house.row(1, 30);
        model.row(1, 30);
        for (int turn = 0; turn < 3; turn++) {
            setSeats(3);
            int first = house.judge(1, 3, 0);
            firstAnswers.merge(first, 1, Integer::sum);
            for (int what = 0; what < 9; what++) {
                is("judge " + what, house.judge(1, 3, what), model.judge(1, 3, what));
            }
        }
    }

    private void tellVotes() {
        int kind = random.nextInt(6);
        int wards = 2 + random.nextInt(3);
        int parties = kind == 0 ? wards : 2 + random.nextInt(3);
        for (int w = 0; w < wards; w++) {
            for (int p = 0; p < parties; p++) {
                int v = votesOf(kind, (p - w + 4) % 4);
                house.vote(w, p, v);
                model.vote(w, p, v);
                story += " v" + w + p + "=" + v;
            }
            int n = 1 + random.nextInt(random.nextInt(3) == 0 ? 8 : 2);
            house.seats(w, n);
            model.seats(w, n);
            story += " s" + n;
        }
        int way = List.of(0, 1, 2, 5).get(random.nextInt(4));
        int a = random.nextInt(3) == 0 ? 0 : random.nextInt(40);
        int b = a + 1 + random.nextInt(99 - a);
        house.tell(a, b);
        model.tell(a, b);
        house.way(way);
        model.way(way);
        story += " way " + way + " " + a + "/" + b;
    }

    private int votesOf(int kind, int turn) {
        switch (kind) {
            case 0: return turn == 0 ? 6 + random.nextInt(9) : turn == 3 ? 1 + random.nextInt(9) : random.nextInt(5) / 4;
            case 1: return turn == 0 || turn == 3 ? 90000 + random.nextInt(10001) : random.nextInt(2);
            case 2: return random.nextInt(4) * random.nextInt(4);
            case 3: return 20000 + random.nextInt(80001);
            case 4: return random.nextInt(3) == 0 ? random.nextInt(3) : 30000 + random.nextInt(30001);
            default: return turn == 0 ? 60 : 1 + random.nextInt(70);
        }
    }

    private void setSeats(int place) {
        int[] wards = new int[4];
        int[] parties = new int[6];
        List<Integer> cells = new ArrayList<>();
        for (int i = 0; i < 24; i++) {
            wards[i / 6] = (int) model.told(10 + i / 6);
            parties[i % 6] = Math.max(0, (int) model.house((int) model.told(1), i % 6));
            cells.add(i);
        }
        Collections.shuffle(cells, random);
        if (random.nextBoolean()) {
            // seats on the turned diagonal, from which only long RINGS may lead
            cells.sort((x, y) -> (turned(y) ? 1 : 0) - (turned(x) ? 1 : 0));
        }
        int[] seats = new int[24];
        // some cells get a seat less than they could at first, so that more cells have one
        for (int round = 0; round < 2; round++) {
            for (int cell : cells) {
                int n = Math.min(wards[cell / 6], parties[cell % 6]);
                n = round == 0 ? Math.min(n, turned(cell) ? 1 : random.nextInt(2)) : n;
                wards[cell / 6] -= n;
                parties[cell % 6] -= n;
                seats[cell] += n;
            }
        }
        for (int i = 0; i < 24; i++) {
            house.set(1, place + i, seats[i]);
            model.set(1, place + i, seats[i]);
        }
    }

    private static boolean turned(int cell) {
        return (cell % 6 - cell / 6 + 4) % 4 == 3;
    }

    private void is(String call, long got, long want) {
        due.is(got == want ? call : story + ": " + call, got, want);
    }
}
