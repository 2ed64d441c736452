import java.io.IOException;
import java.nio.file.Files;
import java.nio.file.Path;

/** The answers that README.md tells, and that it names every call of the face. */
public final class ReadmeTest {
    public static void main(String[] args) throws IOException {
        Due due = new Due("ReadmeTest");
        example(due);
        String text = Files.readString(Path.of("README.md"));
        String table = text.substring(text.indexOf("| What for |"), text.indexOf("No call throws."));
        for (java.lang.reflect.Method method : Twins.face()) {
            due.is("README.md names " + method.getName(), table.matches("(?s).*\\b" + method.getName() + "\\b.*") ? 1 : 0, 1);
        }
        due.end();
    }

    private static void example(Due due) {
        SeatHouse x = new SeatHouse();
        Scene.feed(x, "10,8,3/4,6,3");
        due.is("read(0)", x.read(0), 6);
        due.is("way(1)", x.way(1), 0);
        due.is("house(7, 0)", x.house(7, 0), 3);
        due.is("span(7, 0, 0)", x.span(7, 0, 0), 4);
        due.is("span(7, 0, 1)", x.span(7, 0, 1), 1);
        due.is("span(7, 1, 0)", x.span(7, 1, 0), 28);
        due.is("span(7, 1, 1)", x.span(7, 1, 1), 5);
        due.is("needs(0, 1, 7)", x.needs(0, 1, 7), 6);
        Scene.seats(x, 3, 4);
        due.is("solve()", x.solve(), 1);
        due.is("cell(1, 2)", x.cell(1, 2), 1);
        due.is("bound(0, 1, 0)", x.bound(0, 1, 0), 4);
        due.is("bound(0, 1, 1)", x.bound(0, 1, 1), 3);
        due.is("bound(1, 0, 0)", x.bound(1, 0, 0), 2);
        due.is("bound(1, 0, 1)", x.bound(1, 0, 1), 5);
        due.is("spellPlan()", x.spellPlan(), 47);
        due.is("paper(0)", x.paper(0), 50);
        String paper = Scene.paperOf(x);
        due.is("the paper " + paper, paper.startsWith("2,1,0,0,0,0/1,2,1,0,0,0/") ? 1 : 0, 1);
        due.is("image()", x.image(), 34);
        due.is("vote(0, 0, 11)", x.vote(0, 0, 11), 10);
        due.is("undo()", x.undo(), 34);
        due.is("house(61, 0)", x.house(61, 0), SeatHouse.BAD);
    }
}
