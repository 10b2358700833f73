import java.lang.reflect.InvocationTargetException;
import java.lang.reflect.Method;
import java.util.ArrayList;
import java.util.HashMap;
import java.util.HashSet;
import java.util.List;
import java.util.Map;
import java.util.Set;

/**
 * A run of calls on a new object, told line by line as "call = answer", for one sentence of the document.
 * A line whose answer bears the name of an ERROR is a refused call: the same run is played again without
 * it, and nothing but what told() tells may be unlike; behind a question, nothing at all.
 *
 * <p>A line may also be "call" (any answer but an ERROR), "call x9 = answer" (nine times, the last answer
 * is due), or "tape d+f = 3" (the bytes of a text are fed).
 */
final class Edge {
    private static final int MOST_CALLS = 512;
    private static final Map<String, Method> METHODS = new HashMap<>();
    private static final Map<String, Integer> NUMBERS = Map.of("MIN", Integer.MIN_VALUE, "MAX", Integer.MAX_VALUE);
    private static final String[] ERRORS = {"", "BEYOND", "NONE", "STATE", "FULL", "KIND"};

    static {
        for (Method m : OneWindow.class.getMethods()) {
            if (m.getDeclaringClass() == OneWindow.class) {
                METHODS.put(m.getName(), m);
            }
        }
    }

    /** Calls that answer, and change nothing. */
    private static final Set<String> QUESTIONS = Set.of("ofWindow", "as", "light", "ofPerson", "met", "lit", "law", "then",
        "thenEggs", "order", "seat", "curtain", "mirrors", "whose", "trace", "judge", "count", "told");

    private final OneWindow object = new OneWindow();
    /** The lines that may have changed something. */
    private final List<String> taken = new ArrayList<>();
    /** The names of the questions that were looked behind since then. */
    private final Set<String> asked = new HashSet<>();
    private int calls;
    /** What an object shows that has played just the lines that were taken; null where it isn't asked yet. */
    private String[] shown;

    private Edge() {
    }

    /** One sentence of the document, and a run of calls that would answer otherwise if it were broken. */
    static void edge(String sentence, String... lines) {
        Due.part(sentence);
        Edge e = new Edge();
        for (String line : lines) {
            e.line(line);
        }
        Due.due("a run is of " + MOST_CALLS + " calls at most, these are " + e.calls, e.calls <= MOST_CALLS);
    }

    /** The lines behind those of a scene. */
    static String[] in(String[] scene, String... lines) {
        List<String> all = new ArrayList<>(List.of(scene));
        all.addAll(List.of(lines));
        return all.toArray(new String[0]);
    }

    private void line(String line) {
        int equals = line.lastIndexOf(" = ");
        String call = equals < 0 ? line : line.substring(0, equals);
        String want = equals < 0 ? "" : line.substring(equals + 3);
        calls += countOf(call);
        int got = play(object, call);
        int error = errorOf(want);
        if (want.isEmpty()) {
            Due.due(line + " is taken", got > Due.LOW);
        } else {
            Due.due(call, got, error > 0 ? Due.LOW - error : number(want));
        }
        String name = call.replaceAll("\\W.*", "");
        if (error > 0) {
            changesNothing(call, error);
        } else if (!QUESTIONS.contains(name)) {
            taken.add(call);
            asked.clear();
            shown = null;
        } else if (asked.add(name)) {
            changesNothing(call, 0);
        }
    }

    private static int errorOf(String want) {
        for (int k = 1; k < ERRORS.length; k++) {
            if (ERRORS[k].equals(want)) {
                return k;
            }
        }
        return 0;
    }

    // ---- calls that change nothing

    private void changesNothing(String call, int error) {
        if (shown == null) {
            shown = new String[Look.PARTS];
            for (int part = 0; part < Look.PARTS; part++) {
                shown[part] = Look.at(replay(), part);
            }
        }
        for (int part = 0; part < Look.PARTS; part++) {
            OneWindow x = replay();
            tells(x, call, error);
            String now = Look.at(x, part);
            if (!now.equals(shown[part])) {
                Due.due(call + " changes nothing; ahead of it\n" + shown[part] + "\nbehind it\n" + now + "\n", false);
            }
        }
    }

    private OneWindow replay() {
        OneWindow x = new OneWindow();
        int played = Look.CALLS;
        for (String call : taken) {
            play(x, call);
            played += countOf(call);
        }
        Due.due("a look is within " + MOST_CALLS + " calls, this is " + played, played <= MOST_CALLS);
        return x;
    }

    /** What told() tells is one more of that ERROR, of no other. */
    private static void tells(OneWindow x, String call, int error) {
        int[] told = Look.toldBy(x);
        play(x, call);
        told[error]++;
        int[] then = Look.toldBy(x);
        for (int k = 1; k <= 5; k++) {
            Due.due("told(" + k + ") behind " + call, then[k], told[k]);
        }
    }

    // ---- calls from lines

    private static int countOf(String call) {
        if (call.startsWith("tape ")) {
            return (call.length() - 5 + 7) / 8;
        }
        return timesOf(call);
    }

    private static int timesOf(String call) {
        int x = call.lastIndexOf(") x");
        return x < 0 ? 1 : Integer.parseInt(call.substring(x + 3));
    }

    private static int play(OneWindow x, String call) {
        if (call.startsWith("tape ")) {
            Due.feed(x, call.substring(5));
            return x.count(7);
        }
        int open = call.indexOf('(');
        Method m = METHODS.get(call.substring(0, open));
        Object[] args = argumentsOf(m, call.substring(open + 1, call.lastIndexOf(')')));
        int answer = 0;
        for (int times = timesOf(call); times > 0; times--) {
            answer = invoke(m, x, args);
        }
        return answer;
    }

    private static Object[] argumentsOf(Method m, String told) {
        String[] parts = told.isEmpty() ? new String[0] : told.split(", ");
        if (parts.length != m.getParameterCount()) {
            throw new IllegalArgumentException(m.getName() + "(" + told + ")");
        }
        Object[] args = new Object[parts.length];
        for (int i = 0; i < args.length; i++) {
            if (m.getParameterTypes()[i] == long.class) {
                args[i] = Long.parseUnsignedLong(parts[i].substring(2), 16);
            } else {
                args[i] = number(parts[i]);
            }
        }
        return args;
    }

    private static int number(String told) {
        return NUMBERS.containsKey(told) ? NUMBERS.get(told) : (int) (long) Long.decode(told);
    }

    private static int invoke(Method m, OneWindow x, Object[] args) {
        try {
            return (Integer) m.invoke(x, args);
        } catch (IllegalAccessException | InvocationTargetException e) {
            throw new IllegalStateException(m.getName() + " has thrown", e);
        }
    }
}
