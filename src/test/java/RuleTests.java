import java.io.IOException;
import java.lang.reflect.Field;
import java.lang.reflect.Method;
import java.lang.reflect.Modifier;
import java.nio.charset.StandardCharsets;
import java.nio.file.Files;
import java.nio.file.Path;
import java.util.ArrayList;
import java.util.Arrays;
import java.util.List;
import java.util.Set;
import java.util.TreeSet;
import java.util.regex.Matcher;
import java.util.regex.Pattern;

/** The face of the document, and the rules of LANGUAGE.md so far as a program can see them. */
public final class RuleTests {
    private static final String[] FACE = {"cell(int,int)", "set(int,int)", "window(int,int)", "ofWindow(int,int)",
        "become(int,int)", "as(int,int)", "light(int,int)", "person(int,int)", "ofPerson(int,int)",
        "change(int,int,int)", "met(int)", "turn(int)", "clear()", "lit()", "feed(long,int)", "text(int)",
        "law(int,int,int,int,int)", "nights(int)", "loose(int)", "then(int,int,int)", "thenEggs(int,int)",
        "order(int)", "seat(int)", "curtain(int,int)", "mirrors(int,int,int,int)", "whose(int)", "seed(int)",
        "voice(int,int,int)", "trace(int)", "sheet(int,int,int)", "put(int,int,int)", "move(int,int,int,int,int)",
        "cells(int)", "judge(int,int)", "image()", "restore()", "tell(int)", "check()", "count(int)", "told(int)"};
    private static final Set<String> PUBLIC_NAMES = new TreeSet<>();

    private RuleTests() {
    }

    public static void main(String[] args) throws IOException {
        for (String f : FACE) {
            PUBLIC_NAMES.add(f.substring(0, f.indexOf('(')));
        }
        face();
        inside();
        for (Class<?> c : everyClass()) {
            fields(c);
            methods(c);
        }
        words(source());
        Due.finish("RuleTests");
    }

    private static List<Class<?>> everyClass() {
        List<Class<?>> all = new ArrayList<>(Arrays.asList(OneWindow.class.getDeclaredClasses()));
        all.add(OneWindow.class);
        return all;
    }

    private static void face() {
        Due.part("rule 1");
        Class<?> c = OneWindow.class;
        Due.due("public final", c.getModifiers() == (Modifier.PUBLIC | Modifier.FINAL));
        Due.due("no package", c.getPackage() == null || c.getPackage().getName().isEmpty());
        Due.due("one constructor", c.getDeclaredConstructors().length == 1
            && c.getDeclaredConstructors()[0].getParameterCount() == 0
            && c.getDeclaredConstructors()[0].getModifiers() == Modifier.PUBLIC);
        Set<String> found = new TreeSet<>();
        for (Method m : c.getDeclaredMethods()) {
            if (m.isSynthetic()) {
                continue;
            }
            if (Modifier.isPrivate(m.getModifiers())) {
                Due.due("private " + m.getName() + " bears no public name", !PUBLIC_NAMES.contains(m.getName()));
                continue;
            }
            Due.due(m.getName() + " is public and int", m.getModifiers() == Modifier.PUBLIC
                && m.getReturnType() == int.class);
            StringBuilder b = new StringBuilder(m.getName()).append('(');
            for (Class<?> p : m.getParameterTypes()) {
                b.append(b.charAt(b.length() - 1) == '(' ? "" : ",").append(p.getName());
            }
            found.add(b.append(')').toString());
        }
        Due.due("the face: " + found, found.equals(new TreeSet<>(Arrays.asList(FACE))));
    }

    private static void inside() {
        Due.part("rules 1, 2, 11");
        Class<?>[] inside = OneWindow.class.getDeclaredClasses();
        Due.due("some twelve classes", inside.length <= 11);
        for (Class<?> c : inside) {
            Due.due(c + " is static", Modifier.isStatic(c.getModifiers()));
            Due.due(c + " is not public or protected", (c.getModifiers() & (Modifier.PUBLIC | Modifier.PROTECTED)) == 0);
            Due.due(c + " has no classes inside", c.getDeclaredClasses().length == 0);
        }
    }

    private static void fields(Class<?> c) {
        Due.part("rules 1, 5, 11, " + c.getSimpleName());
        int own = 0;
        for (Field f : c.getDeclaredFields()) {
            int m = f.getModifiers();
            if (c == OneWindow.class) {
                Due.due(f.getName() + " is private", Modifier.isPrivate(m));
            }
            if (Modifier.isStatic(m)) {
                Due.due(f.getName() + " is a constant", Modifier.isFinal(m)
                    && (f.getType() == int.class || f.getType() == String.class));
            } else {
                own++;
            }
        }
        Due.due("some twenty fields", own <= 20);
    }

    private static void methods(Class<?> c) {
        Due.part("rules 6, 11, " + c.getSimpleName());
        for (Method m : c.getDeclaredMethods()) {
            Due.due(m.getName() + " has seven parameters at most", m.getParameterCount() <= 7);
            Due.due(m.getName() + " is none of every object's",
                !Set.of("equals", "hashCode", "toString", "finalize", "clone").contains(m.getName()));
            if (c != OneWindow.class) {
                Due.due(m.getName() + " bears no public name", !PUBLIC_NAMES.contains(m.getName()));
            }
        }
    }

    /** The source without comments, texts and signs. */
    private static String source() throws IOException {
        Path file = Path.of(System.getProperty("root", "."), "src/main/java/OneWindow.java");
        String s = Files.readString(file, StandardCharsets.UTF_8);
        s = s.replaceAll("(?s)/\\*.*?\\*/", "").replaceAll("//[^\n]*", "");
        return s.replaceAll("\"[^\"\n]*\"", "S").replaceAll("'(\\\\.|[^'])'", "C");
    }

    private static void words(String source) {
        Due.part("rules 2 to 13");
        String[] none = {"throw", "throws", "try", "catch", "finally", "synchronized", "assert", "volatile", "transient",
            "native", "goto", "protected", "System\\.(?!arraycopy)", "Thread", "Random", "Object", "Class", "import static",
            "->", "::", "@", "float", "double", "Long\\.", "\\w+Exact", "null", "while \\(true\\)", "for \\(;;", "var"};
        for (String word : none) {
            String edge = Character.isLetter(word.charAt(0)) ? "\\b" : "";
            Matcher m = Pattern.compile(edge + word + (edge.isEmpty() || word.endsWith(".") || word.endsWith(")") ? "" : edge))
                .matcher(source);
            Due.due("no " + word, !m.find());
        }
        Matcher imports = Pattern.compile("import ([^;]+);").matcher(source);
        while (imports.find()) {
            Due.due("import " + imports.group(1), imports.group(1).equals("java.util.Arrays"));
        }
        Matcher calls = Pattern.compile("\\b(Arrays|Math|Integer|System)\\.(\\w+)").matcher(source);
        Set<String> fine = Set.of("fill", "max", "min", "bitCount", "arraycopy");
        while (calls.find()) {
            Due.due(calls.group(), fine.contains(calls.group(2)));
        }
        shortMethods(source);
    }

    private static void shortMethods(String source) {
        int start = -1;
        String[] lines = source.split("\n");
        for (int i = 0; i < lines.length; i++) {
            if (lines[i].matches("(    |        )[a-zA-Z].*\\) \\{")) {
                start = i;
            } else if (start >= 0 && lines[i].equals(lines[start].replaceAll("\\S.*", "") + "}")) {
                Due.due("some sixty lines: " + lines[start], i - start <= 60);
                start = -1;
            }
        }
    }
}
