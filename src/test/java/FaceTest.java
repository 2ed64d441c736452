import java.lang.reflect.Field;
import java.lang.reflect.Method;
import java.lang.reflect.Modifier;
import java.util.Set;
import java.util.TreeSet;

/** The public face: the constants and the methods of the document, and no others. */
public final class FaceTest {
    private static final String FACE = "vote III votes II seats II least II join II bar I way I tell II feed I"
            + " clear . read I in . house II list II given II tie I differ III loses II loser I price III"
            + " span III quota I alike I would IIII needs III spell I paper I solve . cell II bound III"
            + " judge III moved . spellPlan . told I row II set III get II lay II image . undo .";

    public static void main(String[] args) {
        Due due = new Due("FaceTest");
        due.is("NONE", SeatHouse.NONE, -1);
        due.is("BAD", SeatHouse.BAD, -2);
        due.is("STATE", SeatHouse.STATE, -3);
        due.is("FULL", SeatHouse.FULL, -4);
        due.is("OVER", SeatHouse.OVER, -6);
        due.is("NO", SeatHouse.NO, Long.MIN_VALUE);
        Set<String> wanted = wantedMethods();
        Set<String> found = new TreeSet<>();
        for (Method method : SeatHouse.class.getDeclaredMethods()) {
            if (!Modifier.isPrivate(method.getModifiers())) {
                found.add(method.getName() + " " + letters(method) + " " + method.getReturnType());
            }
        }
        due.is("methods " + found, found.equals(wanted) ? 1 : 0, 1);
        int fields = 0;
        for (Field field : SeatHouse.class.getDeclaredFields()) {
            if (!Modifier.isPrivate(field.getModifiers())) {
                fields++;
            }
        }
        due.is("fields that are not private", fields, 6);
        due.is("final", Modifier.isFinal(SeatHouse.class.getModifiers()) ? 1 : 0, 1);
        due.is("constructors", SeatHouse.class.getConstructors().length, 1);
        due.end();
    }

    private static Set<String> wantedMethods() {
        Set<String> wanted = new TreeSet<>();
        String[] words = FACE.split(" ");
        for (int i = 0; i + 1 < words.length; i += 2) {
            boolean isLong = Set.of("price", "span", "bound", "get").contains(words[i]);
            wanted.add(words[i] + " " + words[i + 1].replace(".", "") + " " + (isLong ? "long" : "int"));
        }
        return wanted;
    }

    private static String letters(Method method) {
        StringBuilder text = new StringBuilder();
        for (Class<?> kind : method.getParameterTypes()) {
            text.append(kind == int.class ? "I" : "?");
        }
        return text.toString();
    }
}
