import java.nio.file.Files;
import java.nio.file.Path;
import java.util.Set;
import java.util.TreeSet;
import java.util.regex.Matcher;
import java.util.regex.Pattern;

/** The rules of LANGUAGE.md that can be seen in the text of SeatHouse.java. */
public final class LanguageTest {
    private static final String[] FORBIDDEN = {"throw", "throws", "try", "catch", "synchronized", "assert", "new Random",
        "System.currentTimeMillis", "System.nanoTime", "System.out", "Exact", "->", "::", "@Override", "toString", "hashCode",
        "protected", "package"};
    private static final Pattern METHOD = Pattern.compile(
            "^ {4,8}(?:(?:public|private|static|final) )*(?:int|long|boolean|void) (\\w+)\\(([^)]*)\\) \\{$");

    private static final Pattern FIELD = Pattern.compile("^ {4,8}(?:private )?final [\\w\\[\\]]+ \\w+ = new [^;]+;$");

    public static void main(String[] args) throws Exception {
        Due due = new Due("LanguageTest");
        String text = Files.readString(Path.of("src/main/java/SeatHouse.java"));
        String code = text.replaceAll("(?s)/\\*.*?\\*/", "").replaceAll("//[^\n]*", "");
        for (String word : FORBIDDEN) {
            String pattern = Character.isLetter(word.charAt(0)) ? "\\b" + Pattern.quote(word) + "\\b" : Pattern.quote(word);
            due.is("places of " + word, Pattern.compile(pattern).matcher(code).results().count(), 0);
        }
        due.is("imports", Pattern.compile("(?m)^import ").matcher(code).results().count(), 1);
        due.is("import of Arrays", code.contains("import java.util.Arrays;") ? 1 : 0, 1);
        due.is("classes, some twelve at most",
                Pattern.compile("\\bclass \\w").matcher(code).results().count() <= 12 ? 1 : 0, 1);
        due.is("static fields that aren't final",
                Pattern.compile("(?m)^ +private static (?!final)[^(]*[;=]").matcher(code).results().count(), 0);
        for (int i = 0; i < text.length(); i++) {
            if (text.charAt(i) > 126) {
                due.is("sign at " + i, text.charAt(i), 32);
            }
        }
        objects(due, code);
        methods(due, code);
        due.end();
    }

    /** One room for all calls: whatever is made, is made with an object's fields, and nothing by a call. */
    private static void objects(Due due, String code) {
        for (String line : code.split("\n")) {
            if (Pattern.compile("\\bnew\\b").matcher(line).find()) {
                due.is("a field's initialiser: " + line.trim(), FIELD.matcher(line).matches() ? 1 : 0, 1);
            }
        }
    }

    private static void methods(Due due, String code) {
        Set<String> open = new TreeSet<>();
        Set<String> others = new TreeSet<>();
        String[] lines = code.split("\n");
        for (int i = 0; i < lines.length; i++) {
            Matcher matcher = METHOD.matcher(lines[i]);
            if (!matcher.matches()) {
                continue;
            }
            (lines[i].contains("public ") ? open : others).add(matcher.group(1));
            due.is("parameters of " + matcher.group(1), matcher.group(2).split(",").length <= 7 ? 1 : 0, 1);
            String end = lines[i].replaceAll("\\S.*", "") + "}";
            int length = 0;
            while (!lines[i + length].equals(end)) {
                length++;
            }
            due.is("length of " + matcher.group(1), length <= 60 ? 1 : 0, 1);
        }
        due.is("public methods", open.size(), 40);
        others.retainAll(open);
        due.is("other methods with their names " + others, others.size(), 0);
    }
}
