import java.lang.reflect.InvocationTargetException;
import java.lang.reflect.Method;
import java.lang.reflect.Modifier;
import java.util.ArrayList;
import java.util.Arrays;
import java.util.List;

/** A SeatHouse and a Model that are asked the same calls by name, and must answer alike. */
final class Twins {
    final SeatHouse house = new SeatHouse();
    final Model model = new Model();
    final List<String> calls = new ArrayList<>();
    private final String story;
    private final Due due;

    Twins(String story, Due due) {
        this.story = story;
        this.due = due;
    }

    /** The public methods of SeatHouse, by their names' order. */
    static List<Method> face() {
        List<Method> face = new ArrayList<>();
        for (Method method : SeatHouse.class.getDeclaredMethods()) {
            if (Modifier.isPublic(method.getModifiers())) {
                face.add(method);
            }
        }
        face.sort((x, y) -> x.getName().compareTo(y.getName()));
        return face;
    }

    /** Numbers behind those that the call takes are left out. */
    void ask(String name, int... given) {
        Method method = find(SeatHouse.class, name);
        Object[] arguments = new Object[method.getParameterCount()];
        for (int i = 0; i < arguments.length; i++) {
            arguments[i] = given[i];
        }
        String call = name + Arrays.toString(arguments);
        calls.add(call);
        due.is(story + ": " + call, answer(method, house, arguments), answer(find(Model.class, name), model, arguments));
    }

    private static long answer(Method method, Object asked, Object[] arguments) {
        try {
            return ((Number) method.invoke(asked, arguments)).longValue();
        } catch (InvocationTargetException | IllegalAccessException e) {
            throw new IllegalStateException(method.getName() + Arrays.toString(arguments), e);
        }
    }

    private static Method find(Class<?> owner, String name) {
        for (Method method : owner.getDeclaredMethods()) {
            if (method.getName().equals(name) && !Modifier.isStatic(method.getModifiers())) {
                return method;
            }
        }
        throw new IllegalStateException(name);
    }
}
