import java.io.IOException;
import java.nio.file.Files;
import java.nio.file.Path;
import java.util.List;
import java.util.regex.Matcher;
import java.util.regex.Pattern;

/** What of the language's rules can be seen in the program's text without reading it. */
public final class LanguageTest {
    private static final String[] RULED_OUT = {
        "\\bpackage\\b", "->", "::", "\\bfinally\\b", "\\bsynchronized\\b", "\\bassert\\b",
        "\\bprotected\\b", "\\bthrow\\b", "\\bcatch\\b", "\\bvar\\b", "\\bMath\\.\\w+Exact\\b",
        "\\bstatic \\{", "\\bSystem\\.(?!arraycopy\\b)", "\\bThread\\b", "\\bRandom\\b",
        "\\b(equals|hashCode|toString)\\(", "\\bfor \\(;;\\)", "\\bwhile \\(true\\)",
        "\\bMath\\.(?!min\\b|max\\b)",
    };
    private static final int MOST_LINES_OF_METHOD = 60;
    private static final int MOST_PARAMETERS = 7;
    private static final int MOST_CLASSES = 12;

    public static void main(String[] args) throws IOException {
        Due due = new Due("LanguageTest");
        List<String> lines = Files.readAllLines(Path.of("src/main/java/TileArray.java"));
        String text = withoutComments(String.join("\n", lines));
        for (String pattern : RULED_OUT) {
            due.is("how often there is " + pattern, count(text, pattern), 0);
        }
        due.is("imports", count(text, "\\bimport\\b"), 1);
        due.is("import java.util.Arrays", count(text, "\\bimport java\\.util\\.Arrays;"), 1);
        due.is("static fields that are not final",
                count(text, "static (?!final|class)\\w+(\\[\\])? \\w+( =|;)"), 0);
        due.is("constants of other types than rule 5 names", count(text, "static final (?!class "
                + "|(int|long|boolean|char|String) |(int|long|char|byte)\\[\\] )"), 0);
        due.is("few classes", count(text, "\\bclass \\w+") <= MOST_CLASSES, true);
        methods(due, text);
        due.end();
    }

    private static String withoutComments(String text) {
        return text.replaceAll("(?s)/\\*.*?\\*/", "").replaceAll("//[^\n]*", "");
    }

    private static int count(String text, String pattern) {
        Matcher matcher = Pattern.compile(pattern).matcher(text);
        int found = 0;
        while (matcher.find()) {
            found++;
        }
        return found;
    }

    private static void methods(Due due, String text) {
        Matcher head = Pattern.compile("\n( +)(?:[\\w\\[\\]]+ )*(\\w+)\\(([^()]*)\\) \\{\n")
                .matcher(text);
        while (head.find()) {
            String end = "\n" + head.group(1) + "}";
            String body = text.substring(head.end(), text.indexOf(end, head.end() - 1));
            String name = head.group(2);
            due.is(name + "() is short", count(body, "\n") < MOST_LINES_OF_METHOD, true);
            due.is(name + "() has few parameters",
                    head.group(3).split(",").length <= MOST_PARAMETERS, true);
        }
    }
}
