import java.lang.reflect.Method;
import java.util.List;

/** Each call with each of its numbers at, beside and far from its ends, in three states: as Model answers, without a throw. */
public final class ExtremesTest {
    private static final int[] NUMBERS = {Integer.MIN_VALUE, Integer.MIN_VALUE + 1, -65536, -24, -1, 0, 1, 3, 6, 40, 60,
        61, 127, 100001, 1 << 30, Integer.MAX_VALUE - 5, Integer.MAX_VALUE};
    /** An object is promised 512 calls. */
    private static final int MOST_CALLS = 500;

    private final Due due;
    private final Method method;
    private final int scene;
    private Twins twins;

    private ExtremesTest(Method method, int scene, Due due) {
        this.method = method;
        this.scene = scene;
        this.due = due;
        twins = begun();
    }

    public static void main(String[] args) {
        Due due = new Due("ExtremesTest");
        for (Method method : Twins.face()) {
            for (int scene = 0; scene < 3; scene++) {
                new ExtremesTest(method, scene, due).askAll(new int[method.getParameterCount()], 0);
            }
        }
        due.end();
    }

    private void askAll(int[] arguments, int from) {
        if (from == arguments.length) {
            if (twins.calls.size() >= MOST_CALLS) {
                twins = begun();
            }
            twins.ask(method.getName(), arguments);
            return;
        }
        for (int number : NUMBERS) {
            arguments[from] = number;
            askAll(arguments, from + 1);
        }
    }

    /** 0: a new object; 1: one with a plan; 2: the same by RESTS, without one. */
    private Twins begun() {
        Twins begun = new Twins(method.getName() + " in state " + scene, due);
        if (scene == 0) {
            return begun;
        }
        for (int ward : List.of(0, 3)) {
            for (int party : List.of(0, 3)) {
                begun.ask("vote", ward, party, ward == party ? 7 : 19);
            }
            begun.ask("seats", ward, 3);
        }
        begun.ask("least", 3, 1);
        begun.ask("join", 5, 3);
        begun.ask("tell", 1, 3);
        begun.ask("way", scene == 1 ? 5 : 6);
        begun.ask("feed", '4');
        begun.ask("spell", 6);
        begun.ask("row", 1, 40);
        begun.ask("row", 3, 25);
        begun.ask("lay", 3, 1);
        due.is("a plan in state " + scene, begun.model.solve() >= 0 ? 1 : 0, scene == 1 ? 1 : 0);
        begun.ask("image");
        return begun;
    }
}
