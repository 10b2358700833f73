import java.util.ArrayList;
import java.util.Arrays;
import java.util.List;

/**
 * The document told a second time, plainly and slowly: no tables, no short cuts, every text worked
 * out at every step, every row of windows and every pair of mirrors tried. RandomRuns sets the
 * class OneWindow against it, so nothing here may be taken over from there.
 */
final class Model {
    static final int LOW = -1000000000;
    static final int BEYOND = LOW - 1;
    static final int NONE = LOW - 2;
    static final int STATE = LOW - 3;
    static final int FULL = LOW - 4;
    static final int KIND = LOW - 5;

    static final class Pane {
        int kind;
        int m;
        int cell;
        int eggs;
    }

    static final class Human {
        int cell;
        int need;
        int eggs = 20;
        int read;
    }

    /** A text as a tree. */
    static final class Tree {
        char sign;
        int number;
        Tree left;
        Tree right;
    }

    static final class World {
        int[] cells = new int[36];
        int night;
        int fog;
        int rent = 1;
        int z = 1;
        List<Pane> panes = new ArrayList<>();
        List<Human> humans = new ArrayList<>();
        List<Integer> turns = new ArrayList<>();
        List<Integer> tape = new ArrayList<>();
        List<Integer> waits = new ArrayList<>();
        Tree[] texts = new Tree[2];

        World twin() {
            World w = new World();
            w.cells = cells.clone();
            w.night = night;
            w.fog = fog;
            w.rent = rent;
            w.z = z;
            for (Pane p : panes) {
                Pane q = new Pane();
                q.kind = p.kind;
                q.m = p.m;
                q.cell = p.cell;
                q.eggs = p.eggs;
                w.panes.add(q);
            }
            for (Human h : humans) {
                Human g = new Human();
                g.cell = h.cell;
                g.need = h.need;
                g.eggs = h.eggs;
                g.read = h.read;
                w.humans.add(g);
            }
            w.turns.addAll(turns);
            w.tape.addAll(tape);
            w.waits.addAll(waits);
            w.texts = texts.clone();
            return w;
        }
    }

    World w = new World();
    World imaged;
    int imagings;
    final long[][] sheets = new long[4][];
    final int[] bits = new int[4];
    final List<Integer> trace = new ArrayList<>();
    final int[] told = new int[6];

    private int err(int e) {
        told[LOW - e]++;
        return e;
    }

    private static boolean in(int v, int low, int high) {
        return v >= low && v <= high;
    }

    private boolean pane(int i) {
        return in(i, 0, w.panes.size() - 1);
    }

    private boolean human(int i) {
        return in(i, 0, w.humans.size() - 1);
    }

    // ---- light

    static final int[] ABOVE = {-1, 0, 0, 0, 1, 2, 3};

    static boolean under(int kind, int other) {
        for (int k = kind; k != -1; k = ABOVE[k]) {
            if (k == other) {
                return true;
            }
        }
        return false;
    }

    static int shines(int kind, int m, int night) {
        int v;
        switch (kind) {
            case 0: v = 9 + m; break;
            case 1: v = shines(0, m, night) / 2; break;
            case 2: v = shines(0, m, night) - 2; break;
            case 3: v = shines(0, m, night) + 3; break;
            case 4: v = night % 2 == 1 ? 0 : shines(1, m, night); break;
            case 5: v = shines(2, m, night) - m; break;
            default: v = night % 3 == 0 ? 0 : shines(3, m, night); break;
        }
        return v < 0 ? 0 : v;
    }

    static int dims(int kind) {
        return kind == 2 ? 2 : kind == 5 ? 3 : 1;
    }

    static int[] light(World w, int i, int night) {
        Pane p = w.panes.get(i);
        int[] light = new int[36];
        light[p.cell] = shines(p.kind, p.m, night);
        for (char way : "NESW".toCharArray()) {
            int row = p.cell / 6;
            int column = p.cell % 6;
            int has = light[p.cell];
            char to = way;
            for (int step = 0; step < 40; step++) {
                has -= gives(w, 0, w.fog, dims(p.kind), has, step);
                row += to == 'S' ? 1 : to == 'N' ? -1 : 0;
                column += to == 'E' ? 1 : to == 'W' ? -1 : 0;
                if (has <= 0 || !in(row, 0, 5) || !in(column, 0, 5)) {
                    break;
                }
                int c = 6 * row + column;
                if (w.cells[c] == 1) {
                    break;
                }
                if (light[c] < has) {
                    light[c] = has;
                }
                if (w.cells[c] == 2) {
                    to = to == 'N' ? 'E' : to == 'E' ? 'N' : to == 'S' ? 'W' : 'S';
                } else if (w.cells[c] == 3) {
                    to = to == 'N' ? 'W' : to == 'W' ? 'N' : to == 'S' ? 'E' : 'S';
                }
            }
        }
        return light;
    }

    static int wants(World w, Human h, int night) {
        return gives(w, 1, h.need, h.eggs, h.read, night);
    }

    static int met(World w, int i, int night) {
        int[] light = light(w, i, night);
        int set = 0;
        for (int p = 0; p < w.humans.size(); p++) {
            Human h = w.humans.get(p);
            if (light[h.cell] >= wants(w, h, night)) {
                set |= 1 << p;
            }
        }
        return set;
    }

    // ---- texts

    static int gives(World w, int use, int a, int b, int c, int d) {
        int v = use == 0 ? a + b : a;
        if (w.texts[use] != null) {
            v = value(w.texts[use], use == 0 ? "fdls" : "nert", new int[] {a, b, c, d});
        }
        return v < 1 ? 1 : v > 99 ? 99 : v;
    }

    static int value(Tree t, String names, int[] as) {
        if (t.sign == '0') {
            return t.number;
        }
        if (names.indexOf(t.sign) >= 0) {
            return as[names.indexOf(t.sign)];
        }
        int x = value(t.left, names, as);
        if (t.sign == '!') {
            return x == 0 ? 1 : 0;
        }
        int y = value(t.right, names, as);
        switch (t.sign) {
            case '|': return x != 0 | y != 0 ? 1 : 0;
            case '&': return x != 0 & y != 0 ? 1 : 0;
            case '<': return x < y ? 1 : 0;
            case '=': return x == y ? 1 : 0;
            case '>': return x > y ? 1 : 0;
            case '+': return x + y;
            case '-': return x - y;
            case '*': return x * y;
            case '/': return y == 0 ? 0 : (int) ((long) x / y);
            default: return y == 0 ? 0 : (int) ((long) x % y);
        }
    }

    static String said;
    static String names;
    static int at;

    static Tree parse(String s, int use) {
        said = s;
        names = use == 0 ? "fdls" : "nert";
        at = 0;
        Tree t = level(0, 0);
        return t != null && at == s.length() ? t : null;
    }

    static final String[] LEVELS = {"|", "&", "<=>", "+-", "*/%"};

    static Tree level(int k, int open) {
        if (k == LEVELS.length) {
            return atom(open);
        }
        Tree left = level(k + 1, open);
        while (left != null && at < said.length() && LEVELS[k].indexOf(said.charAt(at)) >= 0) {
            Tree t = new Tree();
            t.sign = said.charAt(at++);
            t.left = left;
            t.right = level(k + 1, open);
            if (t.right == null) {
                return null;
            }
            left = t;
            if (k == 2) {
                break;
            }
        }
        return left;
    }

    static Tree atom(int open) {
        if (at >= said.length()) {
            return null;
        }
        Tree t = new Tree();
        t.sign = said.charAt(at++);
        if (names.indexOf(t.sign) >= 0) {
            return t;
        }
        if (in(t.sign, '0', '9')) {
            int from = at - 1;
            while (at < said.length() && at < from + 4 && in(said.charAt(at), '0', '9')) {
                at++;
            }
            t.sign = '0';
            t.number = Integer.parseInt(said.substring(from, at));
            return t;
        }
        if (t.sign == '!' && open < 5) {
            t.left = atom(open + 1);
            return t.left == null ? null : t;
        }
        if (t.sign == '(' && open < 5) {
            Tree inner = level(0, open + 1);
            return inner == null || at >= said.length() || said.charAt(at++) != ')' ? null : inner;
        }
        return null;
    }

    /** Some text goes on from here, if one does by a number (or none) and by closing what is open. */
    static boolean goesOn(String start, int use) {
        for (String more : new String[] {"", "1"}) {
            for (String close : new String[] {"", ")", "))", ")))", "))))", ")))))"}) {
                if (parse(start + more + close, use) != null) {
                    return true;
                }
            }
        }
        return false;
    }

    static int fault(String s, int use) {
        for (int i = 0; i < s.length(); i++) {
            if (!goesOn(s.substring(0, i + 1), use)) {
                return i;
            }
        }
        return s.length();
    }

    // ---- nights

    static void night(World w) {
        if (!w.turns.isEmpty()) {
            int i = w.turns.get(w.night % w.turns.size());
            int[] light = light(w, i, w.night);
            for (Human h : w.humans) {
                if (light[h.cell] >= wants(w, h, w.night)) {
                    h.read = h.read == 9999 ? 9999 : h.read + 1;
                    int pay = h.eggs < w.rent ? h.eggs : w.rent;
                    h.eggs -= pay;
                    Pane p = w.panes.get(i);
                    p.eggs = p.eggs + pay > 99999 ? 99999 : p.eggs + pay;
                }
            }
        }
        w.night++;
    }

    static int draw(World w) {
        w.z = w.z * 1103515245 + 12345;
        return w.z >>> 8;
    }

    static int reads(World w) {
        return w.humans.stream().mapToInt(h -> h.read).sum();
    }

    // ---- the face

    public int cell(int cell, int v) {
        if (!in(cell, 0, 35) || !in(v, 0, 3)) {
            return err(BEYOND);
        }
        int was = w.cells[cell];
        w.cells[cell] = v;
        return was;
    }

    public int set(int what, int v) {
        if (!in(what, 0, 1) || !in(v, 0, 9)) {
            return err(BEYOND);
        }
        int was = what == 0 ? w.fog : w.rent;
        if (what == 0) {
            w.fog = v;
        } else {
            w.rent = v;
        }
        return was;
    }

    public int window(int km, int cell) {
        if (!in(km, 0, 69) || !in(cell, 0, 35)) {
            return err(BEYOND);
        }
        if (w.panes.size() == 6) {
            return err(FULL);
        }
        Pane p = new Pane();
        p.kind = km / 10;
        p.m = km % 10;
        p.cell = cell;
        w.panes.add(p);
        return w.panes.size() - 1;
    }

    public int ofWindow(int window, int what) {
        if (!pane(window) || !in(what, 0, 6)) {
            return err(BEYOND);
        }
        Pane p = w.panes.get(window);
        return new int[] {p.kind, p.m, p.cell, p.eggs, shines(p.kind, p.m, w.night), dims(p.kind),
            Integer.bitCount(met(w, window, w.night))}[what];
    }

    public int become(int window, int km) {
        if (!pane(window) || !in(km, 0, 69)) {
            return err(BEYOND);
        }
        Pane p = w.panes.get(window);
        int was = p.kind;
        p.kind = km / 10;
        p.m = km % 10;
        return was;
    }

    public int as(int window, int kind) {
        if (!pane(window) || !in(kind, 0, 6)) {
            return err(BEYOND);
        }
        Pane p = w.panes.get(window);
        return under(p.kind, kind) ? p.m : err(KIND);
    }

    public int light(int window, int cell) {
        return !pane(window) || !in(cell, 0, 35) ? err(BEYOND) : light(w, window, w.night)[cell];
    }

    public int person(int cell, int need) {
        if (!in(cell, 0, 35) || !in(need, 1, 20)) {
            return err(BEYOND);
        }
        if (w.humans.size() == 10) {
            return err(FULL);
        }
        Human h = new Human();
        h.cell = cell;
        h.need = need;
        w.humans.add(h);
        return w.humans.size() - 1;
    }

    static int about(World w, int person, int what) {
        Human h = w.humans.get(person);
        return new int[] {h.cell, h.need, h.eggs, h.read, wants(w, h, w.night)}[what];
    }

    public int ofPerson(int person, int what) {
        return !human(person) || !in(what, 0, 4) ? err(BEYOND) : about(w, person, what);
    }

    public int change(int person, int what, int v) {
        if (!human(person) || !in(what, 0, 2)) {
            return err(BEYOND);
        }
        int[] least = {0, 1, 0};
        int[] most = {35, 20, 9999};
        if (!in(v, least[what], most[what])) {
            return err(BEYOND);
        }
        int was = about(w, person, what);
        Human h = w.humans.get(person);
        h.cell = what == 0 ? v : h.cell;
        h.need = what == 1 ? v : h.need;
        h.eggs = what == 2 ? v : h.eggs;
        return was;
    }

    public int met(int window) {
        return !pane(window) ? err(BEYOND) : met(w, window, w.night);
    }

    public int turn(int window) {
        if (!pane(window)) {
            return err(BEYOND);
        }
        if (w.turns.size() == 12) {
            return err(FULL);
        }
        w.turns.add(window);
        return w.turns.size();
    }

    public int clear() {
        int n = w.turns.size();
        w.turns.clear();
        return n;
    }

    public int lit() {
        return w.turns.isEmpty() ? err(NONE) : w.turns.get(w.night % w.turns.size());
    }

    public int feed(long word, int n) {
        if (!in(n, 1, 8)) {
            return err(BEYOND);
        }
        if (w.tape.size() + n > 50) {
            return err(FULL);
        }
        for (int i = 0; i < n; i++) {
            w.tape.add((int) (word & 255));
            word >>= 8;
        }
        return w.tape.size();
    }

    public int text(int use) {
        if (!in(use, 0, 1)) {
            return err(BEYOND);
        }
        StringBuilder b = new StringBuilder();
        for (int v : w.tape) {
            b.append((char) v);
        }
        w.tape.clear();
        Tree t = parse(b.toString(), use);
        if (t == null) {
            return -10 - fault(b.toString(), use);
        }
        w.texts[use] = t;
        return 1;
    }

    public int law(int use, int a, int b, int c, int d) {
        return !in(use, 0, 1) ? err(BEYOND) : gives(w, use, a, b, c, d);
    }

    public int nights(int n) {
        if (!in(n, 1, 100)) {
            return err(BEYOND);
        }
        if (w.night + n > 9999) {
            return err(STATE);
        }
        for (int i = 0; i < n; i++) {
            night(w);
        }
        return reads(w);
    }

    public int loose(int n) {
        if (!in(n, 1, 100)) {
            return err(BEYOND);
        }
        if (w.night + n > 9999) {
            return err(STATE);
        }
        for (int i = 0; i < n; i++) {
            w.fog = draw(w) % 4;
            night(w);
        }
        return reads(w);
    }

    World ahead(int n) {
        World a = w.twin();
        for (int i = 0; i < n; i++) {
            night(a);
        }
        return a;
    }

    public int then(int n, int person, int what) {
        boolean fits = in(n, 0, 100) && human(person) && in(what, 0, 4);
        return fits ? about(ahead(n), person, what) : err(BEYOND);
    }

    public int thenEggs(int n, int window) {
        return in(n, 0, 100) && pane(window) ? ahead(n).panes.get(window).eggs : err(BEYOND);
    }

    private int bestSum;
    private List<Integer> bestRow;

    private void rows(List<Integer> row) {
        int n = w.panes.size();
        if (row.size() == n) {
            int sum = 0;
            for (int i = 0; i < n; i++) {
                sum += Integer.bitCount(met(w, row.get(i), w.night + i));
            }
            if (sum > bestSum) {
                bestSum = sum;
                bestRow = new ArrayList<>(row);
            }
            return;
        }
        for (int i = 0; i < n; i++) {
            if (!row.contains(i)) {
                row.add(i);
                rows(row);
                row.remove(row.size() - 1);
            }
        }
    }

    public int order(int what) {
        if (!in(what, -1, 5)) {
            return err(BEYOND);
        }
        if (what >= w.panes.size()) {
            return err(NONE);
        }
        bestSum = -1;
        rows(new ArrayList<>());
        return what == -1 ? bestSum : bestRow.get(what);
    }

    public int seat(int window) {
        if (!pane(window)) {
            return err(BEYOND);
        }
        int[] light = light(w, window, w.night);
        for (int v = 99; v >= 0; v--) {
            for (int c = 0; c < 36; c++) {
                if (w.cells[c] == 0 && light[c] == v) {
                    return c;
                }
            }
        }
        return err(NONE);
    }

    public int curtain(int window, int cell) {
        if (!pane(window) || !in(cell, 0, 35)) {
            return err(BEYOND);
        }
        if (w.cells[cell] != 0) {
            return err(STATE);
        }
        World other = w.twin();
        other.cells[cell] = 1;
        return Integer.bitCount(met(w, window, w.night)) - Integer.bitCount(met(other, window, w.night));
    }

    private int[] mirrored(int window, int cell, int x) {
        if (light(w, window, w.night)[cell] >= x) {
            return new int[0];
        }
        World o = w.twin();
        List<Integer> free = new ArrayList<>();
        for (int c = 0; c < 36; c++) {
            if (w.cells[c] == 0 && c != cell && c != w.panes.get(window).cell) {
                free.add(c);
            }
        }
        for (int c : free) {
            for (int k = 2; k <= 3; k++) {
                o.cells[c] = k;
                if (light(o, window, w.night)[cell] >= x) {
                    return new int[] {c, k};
                }
                o.cells[c] = 0;
            }
        }
        for (int c : free) {
            for (int d : free) {
                for (int kk = 0; d > c && kk < 4; kk++) {
                    o.cells[c] = 2 + kk / 2;
                    o.cells[d] = 2 + kk % 2;
                    if (light(o, window, w.night)[cell] >= x) {
                        return new int[] {c, o.cells[c], d, o.cells[d]};
                    }
                    o.cells[c] = 0;
                    o.cells[d] = 0;
                }
            }
        }
        return null;
    }

    public int mirrors(int window, int cell, int x, int what) {
        if (!pane(window) || !in(cell, 0, 35) || !in(x, 1, 99) || !in(what, 0, 4)) {
            return err(BEYOND);
        }
        int[] found = mirrored(window, cell, x);
        if (found == null) {
            return err(NONE);
        }
        if (what == 0) {
            return found.length / 2;
        }
        return what > found.length ? err(NONE) : found[what - 1];
    }

    public int whose(int set) {
        for (int b = 0; b < 32; b++) {
            if ((set >>> b & 1) == 1 && !human(b)) {
                return err(BEYOND);
            }
        }
        int all = 0;
        for (int i = 0; i < w.panes.size(); i++) {
            all += met(w, i, w.night) == set ? 1 << i : 0;
        }
        return all;
    }

    public int seed(int v) {
        int was = w.z;
        w.z = v;
        return was;
    }

    /** BODIES by KIND and act; 0 where the KIND has none. */
    static final int[][] BODIES = {
        {10, 11, 12, 13}, {0, 20, 0, 0}, {30, 0, 0, 0}, {0, 0, 40, 0}, {0, 50, 0, 0}, {0, 0, 0, 60}, {0, 0, 70, 71}};

    private int speak(int me, int from, int act, int x) {
        int kind = from;
        while (BODIES[kind][act] == 0) {
            kind = ABOVE[kind];
        }
        int n = me;
        int own = w.panes.get(me).kind;
        int m = w.panes.get(me).m;
        int up = ABOVE[kind];
        trace.add(BODIES[kind][act]);
        int first;
        switch (BODIES[kind][act]) {
            case 10: return x + n;
            case 11: return speak(me, own, 0, x) * 2;
            case 12: return x - m;
            case 13: first = speak(me, own, 1, x); return first ^ speak(me, own, 2, x);
            case 20: first = speak(me, up, 1, x); return first - speak(me, own, 2, 1);
            case 30: return speak(me, up, 0, x) * 3;
            case 40: return -speak(me, up, 2, x);
            case 50: return speak(me, up, 1, x + 1);
            case 60: first = speak(me, up, 3, x); return first - speak(me, own, 0, 2);
            case 70: return speak(me, up, 2, x) ^ n;
            default: first = speak(me, own, 1, x); return first - speak(me, up, 3, x);
        }
    }

    public int voice(int window, int act, int x) {
        if (!pane(window) || !in(act, 0, 3)) {
            return err(BEYOND);
        }
        trace.clear();
        int v = speak(window, w.panes.get(window).kind, act, x);
        while (trace.size() > 40) {
            trace.remove(40);
        }
        return v;
    }

    public int trace(int i) {
        return in(i, 0, trace.size() - 1) ? trace.get(i) : err(NONE);
    }

    public int sheet(int sheet, int many, int n) {
        if (!in(sheet, 0, 3) || !Arrays.asList(0, 8, 16, 32).contains(many)) {
            return err(BEYOND);
        }
        if (many != 0 && n < 0) {
            return err(STATE);
        }
        if (many != 0 && n > 40) {
            return err(BEYOND);
        }
        sheets[sheet] = many == 0 ? null : new long[n];
        bits[sheet] = many;
        return 1;
    }

    public int put(int sheet, int i, int v) {
        if (!in(sheet, 0, 3)) {
            return err(BEYOND);
        }
        if (sheets[sheet] == null) {
            return err(NONE);
        }
        if (!in(i, 0, sheets[sheet].length - 1)) {
            return err(BEYOND);
        }
        sheets[sheet][i] = v & (1L << bits[sheet]) - 1;
        return 1;
    }

    public int move(int sheet, int i, int other, int j, int n) {
        if (!in(sheet, 0, 3) || !in(other, 0, 3)) {
            return err(BEYOND);
        }
        if (sheets[sheet] == null || sheets[other] == null) {
            return err(NONE);
        }
        if (bits[sheet] != bits[other]) {
            return err(KIND);
        }
        if (n < 0 || i < 0 || j < 0 || (long) i + n > sheets[sheet].length || (long) j + n > sheets[other].length) {
            return err(BEYOND);
        }
        long[] were = sheets[sheet].clone();
        for (int k = 0; k < n; k++) {
            sheets[other][j + k] = were[i + k];
        }
        return n;
    }

    public int cells(int sheet) {
        if (!in(sheet, 0, 3)) {
            return err(BEYOND);
        }
        if (sheets[sheet] == null) {
            return err(NONE);
        }
        int k = 0;
        for (long v : sheets[sheet]) {
            if (v > 3 || k == 36) {
                break;
            }
            w.cells[k++] = (int) v;
        }
        return k;
    }

    public int judge(int sheet, int window) {
        if (!in(sheet, 0, 3) || !pane(window)) {
            return err(BEYOND);
        }
        if (sheets[sheet] == null) {
            return err(NONE);
        }
        int[] light = light(w, window, w.night);
        int k = 0;
        for (long v : sheets[sheet]) {
            if (k == 36 || v != light[k]) {
                break;
            }
            k++;
        }
        return k;
    }

    public int image() {
        imaged = w.twin();
        return ++imagings;
    }

    public int restore() {
        if (imaged == null) {
            return err(NONE);
        }
        w = imaged.twin();
        return w.night;
    }

    public int tell(int v) {
        if (w.waits.size() == 20) {
            return err(FULL);
        }
        w.waits.add(v);
        return w.waits.size();
    }

    public int check() {
        List<Integer> were = new ArrayList<>(w.waits);
        w.waits.clear();
        for (int i = 0; i < were.size(); i++) {
            if (reads(ahead(i + 1)) != were.get(i)) {
                return i + 1;
            }
        }
        return 0;
    }

    public int count(int what) {
        if (!in(what, 0, 10)) {
            return err(BEYOND);
        }
        int eggs = w.humans.stream().mapToInt(h -> h.eggs).sum() + w.panes.stream().mapToInt(p -> p.eggs).sum();
        return new int[] {w.night, w.panes.size(), w.humans.size(), w.turns.size(), reads(w), eggs, w.fog,
            w.tape.size(), w.waits.size(), trace.size(), w.z}[what];
    }

    public int told(int k) {
        return in(k, 1, 5) ? told[k] : err(BEYOND);
    }
}
