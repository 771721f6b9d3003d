import java.io.IOException;
import java.lang.reflect.Field;
import java.lang.reflect.Modifier;
import java.net.URL;
import java.net.URLClassLoader;
import java.nio.file.Files;
import java.nio.file.Path;
import java.util.ArrayList;
import java.util.List;
import java.util.regex.Matcher;
import java.util.regex.Pattern;

/** Holds README.md against the class: its examples, its constants, its calls, its tests. */
public final class ReadmeTest {
    private static final Pattern JAVA_BLOCK = Pattern.compile("(?s)```java\n(.*?)```");
    // A statement, and behind it the answer, and perhaps a word about that.
    private static final Pattern ANSWERED =
            Pattern.compile("(?:\\w+ (\\w+) = )?(.*); +// ([^:]+)(?:: .*)?");

    public static void main(String[] args) throws Exception {
        Due due = new Due("ReadmeTest");
        String readme = Files.readString(Path.of("README.md"));
        examples(due, readme);
        constants(due, readme);
        calls(due, readme);
        tests(due, readme);
        due.end();
    }

    private static void examples(Due due, String readme) throws Exception {
        Matcher block = JAVA_BLOCK.matcher(readme);
        int found = 0;
        while (block.find()) {
            found++;
            for (String[] row : run("ReadmeExample" + found, block.group(1))) {
                due.is("example " + found + ", " + row[0], row[1], row[2]);
            }
        }
        due.is("examples", found, 2);
    }

    /** What the lines with an answer gave: the line, what was got, what the text says. */
    private static List<String[]> run(String name, String lines) throws Exception {
        Path folder = Files.createTempDirectory(name);
        Path file = folder.resolve(name + ".java");
        Files.writeString(file, program(name, lines));
        compile(folder, file);
        List<String[]> rows = new ArrayList<>();
        URL[] where = {folder.toUri().toURL()};
        try (URLClassLoader loader = new URLClassLoader(where)) {
            loader.loadClass(name).getMethod("run", List.class).invoke(null, rows);
        }
        for (String end : new String[] {".java", ".class", ""}) {
            Files.delete(end.isEmpty() ? folder : folder.resolve(name + end));
        }
        return rows;
    }

    private static void compile(Path folder, Path file) throws IOException, InterruptedException {
        int end = new ProcessBuilder("javac", "-cp", System.getProperty("java.class.path"), "-d",
                folder.toString(), file.toString()).inheritIO().start().waitFor();
        if (end != 0) {
            throw new IllegalStateException("the example does not compile: " + file);
        }
    }

    private static String program(String name, String lines) {
        StringBuilder text = new StringBuilder("public final class " + name + " {\n"
                + "public static void run(java.util.List<String[]> rows) {\n");
        for (String line : lines.split("\n")) {
            Matcher parts = ANSWERED.matcher(line);
            if (!parts.matches()) {
                text.append(line).append('\n');
                continue;
            }
            String got = parts.group(2);
            if (parts.group(1) != null) {
                text.append(line).append('\n');
                got = parts.group(1);
            }
            text.append("rows.add(new String[] {\"").append(parts.group(2))
                    .append("\", String.valueOf(").append(got).append("), String.valueOf(")
                    .append(parts.group(3)).append(")});\n");
        }
        return text.append("}\n}\n").toString();
    }

    private static void constants(Due due, String readme) throws IllegalAccessException {
        int found = 0;
        for (Field field : TileArray.class.getDeclaredFields()) {
            if (Modifier.isPublic(field.getModifiers())) {
                found++;
                String row = "| `" + field.getName() + "` | " + field.getInt(null) + " |";
                due.is("README.md has the row " + row, readme.contains(row), true);
            }
        }
        due.is("constants", found, 3);
    }

    /** The document's face is the list; each call has a row, with its answer and its refusal. */
    private static void calls(Due due, String readme) throws IOException {
        String document = Files.readString(Path.of("../shared/DOC.md"));
        Matcher block = JAVA_BLOCK.matcher(document);
        due.is("the document has its face", block.find(), true);
        Matcher call = Pattern.compile("public (\\w+ ?\\w*\\(.*\\));").matcher(block.group(1));
        int found = 0;
        while (call.find()) {
            found++;
            String head = Pattern.quote("| `" + call.group(1) + "` | ");
            due.is("README.md has a row for " + call.group(1),
                    Pattern.compile("(?m)^" + head + "[^|]+ \\| [^|]+ \\|$").matcher(readme).find(),
                    true);
        }
        due.is("calls, the constructor among them", found, 19);
    }

    /** Each class that the text names as a test or a helper is there, and the other way round. */
    private static void tests(Due due, String readme) throws IOException {
        try (var files = Files.list(Path.of("src/test/java"))) {
            for (Path file : files.toList()) {
                String name = file.getFileName().toString().replace(".java", "")
                        .replaceFirst("^Promise\\d\\d\\w+Test$", "PromiseNNXxxTest")
                        .replaceFirst("^Bounds\\w+Test$", "BoundsXxxTest");
                due.is("README.md names " + name, readme.contains("`" + name + "`"), true);
            }
        }
        Matcher names = Pattern.compile("`([A-Z][a-z]+\\w*Test)`").matcher(readme);
        while (names.find()) {
            String name = names.group(1);
            due.is(name + " is there", name.contains("Xxx")
                    || Files.exists(Path.of("src/test/java", name + ".java")), true);
        }
    }
}
