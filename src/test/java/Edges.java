import java.util.List;
import java.util.function.Supplier;
import java.util.function.ToLongFunction;

/** Boundary cases, each under the sentence of the document that names it. */
final class Edges {
    static final long NO = Long.MIN_VALUE;
    static final int LOW = Integer.MIN_VALUE;
    static final int HIGH = Integer.MAX_VALUE;

    private final Due due;
    private String sentence = "";

    Edges(String name) {
        due = new Due(name);
    }

    /** The sentence to which the next answers belong. */
    void says(String words) {
        sentence = words;
    }

    void is(String call, long got, long want) {
        due.is("'" + sentence + "' " + call, got, want);
    }

    void is(String call, String got, String want) {
        is(call + " is " + got + ", due is " + want, got.equals(want) ? 1 : 0, 1);
    }

    /** A call whose answer is due, and behind which all that can be seen is as if it hadn't been. */
    void keeps(String call, long want, ToLongFunction<SeatHouse> asked) {
        keeps(Scene::busy, call, want, asked);
    }

    void keeps(Supplier<SeatHouse> scene, String call, long want, ToLongFunction<SeatHouse> asked) {
        keeps(scene, call, want, asked, true);
    }

    /** As keeps, but THE PAPER may change. */
    void keepsAllButPaper(Supplier<SeatHouse> scene, String call, long want, ToLongFunction<SeatHouse> asked) {
        keeps(scene, call, want, asked, false);
    }

    private void keeps(Supplier<SeatHouse> scene, String call, long want, ToLongFunction<SeatHouse> asked,
            boolean withPaper) {
        SeatHouse house = scene.get();
        is(call, asked.applyAsLong(house), want);
        List<String> behind = Sight.of(house, withPaper);
        List<String> without = Sight.of(scene.get(), withPaper);
        for (int i = 0; i < Math.min(behind.size(), without.size()); i++) {
            if (!behind.get(i).equals(without.get(i))) {
                is(call + " changes " + without.get(i) + " to " + behind.get(i), 1, 0);
                return;
            }
        }
        is(call + ": as much is seen", behind.size(), without.size());
    }

    void end() {
        due.end();
    }
}
