import java.io.File;
import java.io.IOException;
import java.nio.charset.StandardCharsets;
import java.nio.file.DirectoryStream;
import java.nio.file.Files;
import java.nio.file.Path;
import java.util.ArrayList;
import java.util.List;
import java.util.regex.Matcher;
import java.util.regex.Pattern;

/** README.md says what is so: its examples, compiled and run; its calls; its tests. */
public final class ReadmeTests {
    private static final Path ROOT = Path.of(System.getProperty("root", "."));
    /** A line that makes a call and tells its answer: "int a = x.call(..); // 3: what it is". */
    private static final Pattern TOLD = Pattern.compile("\\s*(?:int (\\w+) = )?(\\w+\\.\\w+\\(.*\\));\\s*// (-?\\d+)\\b.*");

    private ReadmeTests() {
    }

    public static void main(String[] args) throws Exception {
        String readme = Files.readString(ROOT.resolve("README.md"), StandardCharsets.UTF_8);
        examples(readme);
        calls(readme);
        tests(readme);
        Due.finish("ReadmeTests");
    }

    // ---- its examples

    private static void examples(String readme) throws Exception {
        Due.part("README.md, examples");
        StringBuilder body = new StringBuilder();
        Matcher blocks = Pattern.compile("(?s)```java\n(.*?)```").matcher(readme);
        while (blocks.find()) {
            body.append("{\n").append(asked(blocks.group(1))).append("}\n");
        }
        Path folder = Files.createTempDirectory("readme");
        try {
            Path file = folder.resolve("Examples.java");
            Files.writeString(file, "public final class Examples {\npublic static void main(String[] args) {\n"
                + "Due.part(\"README.md, examples\");\n" + body + "Due.finish(\"README.md's examples\");\n}\n}\n");
            String path = folder + File.pathSeparator + System.getProperty("java.class.path");
            Due.due("README.md's examples, compiled", ended("javac", "-cp", path, "-d", folder.toString(), file.toString()), 0);
            Due.due("README.md's examples, run", ended("java", "-cp", path, "Examples"), 0);
        } finally {
            Files.deleteIfExists(folder.resolve("Examples.class"));
            Files.deleteIfExists(folder.resolve("Examples.java"));
            Files.delete(folder);
        }
    }

    private static int ended(String... command) throws Exception {
        return new ProcessBuilder(command).inheritIO().start().waitFor();
    }

    /** The same lines, and behind each call whether it answers what is told. */
    private static String asked(String block) {
        StringBuilder lines = new StringBuilder();
        int told = 0;
        for (String line : block.split("\n")) {
            Matcher m = TOLD.matcher(line);
            if (!m.matches()) {
                Due.due("README.md tells what is answered: " + line, !line.contains("//"));
                lines.append(line).append('\n');
                continue;
            }
            told++;
            String got = m.group(2);
            if (m.group(1) != null) {
                lines.append(line).append('\n');
                got = m.group(1);
            }
            String what = m.group(2).replace("\\", "\\\\").replace("\"", "\\\"");
            lines.append("Due.due(\"" + what + "\", " + got + ", " + m.group(3) + ");\n");
        }
        Due.due("README.md tells some answers in each example", told > 2);
        return lines.toString();
    }

    // ---- its calls

    /** Each call of the face stands in a table, in the face's order, with the names of its arguments. */
    private static void calls(String readme) throws IOException {
        Due.part("README.md, calls");
        String source = Files.readString(ROOT.resolve("src/main/java/OneWindow.java"), StandardCharsets.UTF_8);
        List<String> face = new ArrayList<>();
        Matcher methods = Pattern.compile("(?m)^    public int (\\w+)\\((.*)\\) \\{$").matcher(source);
        while (methods.find()) {
            face.add(methods.group(1) + "(" + methods.group(2).replaceAll("(int|long) ", "") + ")");
        }
        List<String> told = new ArrayList<>();
        Matcher rows = Pattern.compile("(?m)^\\| `(\\w+\\(.*?\\))` \\| \\S.* \\|$").matcher(readme);
        while (rows.find()) {
            told.add(rows.group(1));
        }
        Due.due("the calls of the face", face.size(), 40);
        Due.due("the calls told are the face's: " + told, told.equals(face));
    }

    // ---- its tests

    private static void tests(String readme) throws IOException {
        Due.part("README.md, tests");
        String ci = Files.readString(ROOT.resolve(".ci/run"), StandardCharsets.UTF_8);
        String told = readme.substring(readme.indexOf("## How to run the tests"));
        int tests = 0;
        try (DirectoryStream<Path> files = Files.newDirectoryStream(ROOT.resolve("src/test/java"), "*.java")) {
            for (Path file : files) {
                String name = file.getFileName().toString().replace(".java", "");
                Due.due("README.md tells of " + name, name.equals("Due") || told.contains("`" + name + "`"));
                if (Files.readString(file, StandardCharsets.UTF_8).contains("public static void main(")) {
                    tests++;
                    Due.due(".ci/run runs " + name, Pattern.compile("\\b" + name + "\\b").matcher(ci).find());
                }
            }
        }
        Due.due("there are tests", tests > 9);
    }
}
