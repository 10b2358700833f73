/** Promises 1 to 15 and 28 to 41, with answers written out by hand. */
public final class PromiseTests {
    private static final int BEYOND = Due.BEYOND;
    private static final int NONE = Due.NONE;
    private static final int STATE = Due.STATE;
    private static final int FULL = Due.FULL;
    private static final int KIND = Due.KIND;

    private PromiseTests() {
    }

    private static void due(String what, long got, long want) {
        Due.due(what, got, want);
    }

    public static void main(String[] args) {
        aNewObject();
        cell();
        set();
        window();
        ofWindow();
        become();
        as();
        light();
        lightTurns();
        lightEdges();
        person();
        ofPerson();
        change();
        met();
        turns();
        seed();
        voice();
        traceOfErrors();
        sheet();
        put();
        move();
        cells();
        judge();
        image();
        imageKeepsAll();
        tellAndCheck();
        checkEdges();
        count();
        told();
        Due.finish("PromiseTests");
    }

    private static void aNewObject() {
        Due.part("promise 1");
        OneWindow x = new OneWindow();
        for (int what = 0; what < 10; what++) {
            due("count(" + what + ")", x.count(what), 0);
        }
        due("count(10)", x.count(10), 1);
        for (int k = 1; k <= 5; k++) {
            due("told(" + k + ")", x.told(k), 0);
        }
        for (int c = 0; c < 36; c++) {
            due("cell(" + c + ", 0)", x.cell(c, 0), 0);
        }
        due("set(0, 0)", x.set(0, 0), 0);
        due("set(1, 1)", x.set(1, 1), 1);
        due("law(0, ..)", x.law(0, 2, 3, 50, 50), 5);
        due("law(1, ..)", x.law(1, 7, 50, 50, 50), 7);
        due("lit()", x.lit(), NONE);
        due("restore()", x.restore(), NONE);
        due("trace(0)", x.trace(0), NONE);
        for (int s = 0; s < 4; s++) {
            due("cells(" + s + ")", x.cells(s), NONE);
        }
        due("ofWindow(0, 0)", x.ofWindow(0, 0), BEYOND);
        due("ofPerson(0, 0)", x.ofPerson(0, 0), BEYOND);
        due("another's night", new OneWindow().count(0), 0);
    }

    private static void cell() {
        Due.part("promise 2");
        OneWindow x = new OneWindow();
        due("cell(0, 3)", x.cell(0, 3), 0);
        due("cell(0, 1)", x.cell(0, 1), 3);
        due("cell(0, 2)", x.cell(0, 2), 1);
        due("cell(35, 1)", x.cell(35, 1), 0);
        due("cell(0, 4)", x.cell(0, 4), BEYOND);
        due("cell(0, -1)", x.cell(0, -1), BEYOND);
        due("cell(-1, 0)", x.cell(-1, 0), BEYOND);
        due("cell(36, 0)", x.cell(36, 0), BEYOND);
        due("cell(0, 0)", x.cell(0, 0), 2);
        due("cell(35, 0)", x.cell(35, 0), 1);
        due("cell(MIN, MAX)", x.cell(Integer.MIN_VALUE, Integer.MAX_VALUE), BEYOND);
    }

    private static void set() {
        Due.part("promise 3");
        OneWindow x = new OneWindow();
        due("set(0, 9)", x.set(0, 9), 0);
        due("set(1, 0)", x.set(1, 0), 1);
        due("set(1, 9)", x.set(1, 9), 0);
        due("set(0, 10)", x.set(0, 10), BEYOND);
        due("set(0, -1)", x.set(0, -1), BEYOND);
        due("set(1, 10)", x.set(1, 10), BEYOND);
        due("set(1, -1)", x.set(1, -1), BEYOND);
        due("set(2, 1)", x.set(2, 1), BEYOND);
        due("set(-1, 1)", x.set(-1, 1), BEYOND);
        due("count(6)", x.count(6), 9);
        due("set(0, 3)", x.set(0, 3), 9);
        due("set(1, 3)", x.set(1, 3), 9);
    }

    private static void window() {
        Due.part("promise 4");
        OneWindow x = new OneWindow();
        due("window(-1, 0)", x.window(-1, 0), BEYOND);
        due("window(70, 0)", x.window(70, 0), BEYOND);
        due("window(0, -1)", x.window(0, -1), BEYOND);
        due("window(0, 36)", x.window(0, 36), BEYOND);
        due("count(1)", x.count(1), 0);
        due("window(69, 35)", x.window(69, 35), 0);
        due("kind", x.ofWindow(0, 0), 6);
        due("m", x.ofWindow(0, 1), 9);
        due("cell", x.ofWindow(0, 2), 35);
        due("eggs", x.ofWindow(0, 3), 0);
        for (int i = 1; i < 6; i++) {
            due("window " + i, x.window(11 * i, i), i);
            due("kind " + i, x.ofWindow(i, 0), i);
            due("m " + i, x.ofWindow(i, 1), i);
        }
        due("one more", x.window(0, 0), FULL);
        due("one more beyond", x.window(0, 36), BEYOND);
        due("one more of no kind", x.window(70, 0), BEYOND);
        due("count(1)", x.count(1), 6);
    }

    private static void ofWindow() {
        Due.part("promise 5");
        OneWindow x = new OneWindow();
        x.window(5, 14);
        int[][] shines = {{14, 14, 14, 14, 14, 14}, {7, 7, 7, 7, 7, 7}, {12, 12, 12, 12, 12, 12},
            {17, 17, 17, 17, 17, 17}, {7, 0, 7, 0, 7, 0}, {7, 7, 7, 7, 7, 7}, {0, 17, 17, 0, 17, 17}};
        int[] dims = {1, 1, 2, 1, 1, 3, 1};
        for (int night = 0; night < 6; night++) {
            for (int kind = 0; kind < 7; kind++) {
                x.become(0, 10 * kind + 5);
                due("KIND", x.ofWindow(0, 0), kind);
                due("m", x.ofWindow(0, 1), 5);
                due("CELL", x.ofWindow(0, 2), 14);
                due("kind " + kind + " night " + night + " shines", x.ofWindow(0, 4), shines[kind][night]);
                due("kind " + kind + " dims", x.ofWindow(0, 5), dims[kind]);
            }
            x.nights(1);
        }
        x.become(0, 59);
        due("stained with 9 shines", x.ofWindow(0, 4), 7);
        x.become(0, 10);
        due("weak with 0 shines (cut)", x.ofWindow(0, 4), 4);
        x.person(14, 4);
        x.person(15, 3);
        x.person(16, 3);
        due("met", x.ofWindow(0, 6), 2);
        x.turn(0);
        x.nights(3);
        due("eggs", x.ofWindow(0, 3), 6);
        due("ofWindow(0, -1)", x.ofWindow(0, -1), BEYOND);
        due("ofWindow(0, 7)", x.ofWindow(0, 7), BEYOND);
        due("ofWindow(1, 0)", x.ofWindow(1, 0), BEYOND);
        due("ofWindow(-1, 0)", x.ofWindow(-1, 0), BEYOND);
    }

    private static void become() {
        Due.part("promise 6");
        OneWindow x = new OneWindow();
        x.window(23, 8);
        x.person(8, 1);
        x.turn(0);
        x.nights(2);
        due("become(0, 70)", x.become(0, 70), BEYOND);
        due("become(0, -1)", x.become(0, -1), BEYOND);
        due("become(1, 0)", x.become(1, 0), BEYOND);
        due("become(-1, 0)", x.become(-1, 0), BEYOND);
        due("become(0, 61)", x.become(0, 61), 2);
        due("become(0, 34)", x.become(0, 34), 6);
        due("kind", x.ofWindow(0, 0), 3);
        due("m", x.ofWindow(0, 1), 4);
        due("cell", x.ofWindow(0, 2), 8);
        due("eggs", x.ofWindow(0, 3), 2);
        due("shines", x.ofWindow(0, 4), 16);
    }

    private static void as() {
        Due.part("promise 7");
        OneWindow x = new OneWindow();
        x.window(0, 0);
        boolean[][] is = new boolean[7][7];
        int[] above = {0, 0, 0, 0, 1, 2, 3};
        for (int kind = 0; kind < 7; kind++) {
            is[kind][kind] = true;
            is[kind][above[kind]] = true;
            is[kind][0] = true;
        }
        for (int kind = 0; kind < 7; kind++) {
            x.become(0, 10 * kind + 9 - kind);
            for (int other = 0; other < 7; other++) {
                due("kind " + kind + " as " + other, x.as(0, other), is[kind][other] ? 9 - kind : KIND);
            }
        }
        due("as(0, 7)", x.as(0, 7), BEYOND);
        due("as(0, -1)", x.as(0, -1), BEYOND);
        due("as(1, 0)", x.as(1, 0), BEYOND);
        due("as(-1, 1)", x.as(-1, 1), BEYOND);
        due("told(5)", x.told(5), 33);
    }

    private static void light() {
        Due.part("promise 8");
        OneWindow x = new OneWindow();
        x.window(0, 14);
        int[] want = {0, 0, 7, 0, 0, 0, 0, 0, 8, 0, 0, 0, 7, 8, 9, 8, 7, 6,
            0, 0, 8, 0, 0, 0, 0, 0, 7, 0, 0, 0, 0, 0, 6, 0, 0, 0};
        for (int c = 0; c < 36; c++) {
            due("light(0, " + c + ")", x.light(0, c), want[c]);
        }
        x.become(0, 20);
        due("coloured next", x.light(0, 15), 5);
        due("coloured by two", x.light(0, 16), 3);
        due("coloured by three", x.light(0, 17), 1);
        x.set(0, 2);
        due("with fog next", x.light(0, 15), 3);
        due("with fog: nothing is left", x.light(0, 16), 0);
        x.set(0, 0);
        x.become(0, 40);
        due("borrowed on an even night", x.light(0, 14), 4);
        x.nights(1);
        due("borrowed on an odd night", x.light(0, 14), 0);
        due("borrowed on an odd night, next", x.light(0, 15), 0);
        due("light(1, 0)", x.light(1, 0), BEYOND);
        due("light(-1, 0)", x.light(-1, 0), BEYOND);
        due("light(0, 36)", x.light(0, 36), BEYOND);
        due("light(0, -1)", x.light(0, -1), BEYOND);
    }

    /** Each mirror from each of the four sides: where the ray goes then, and where it doesn't. */
    private static void lightTurns() {
        Due.part("promise 8, mirrors");
        int[][] turns = {{8, 2, 9, 10, 2}, {8, 3, 7, 6, 2}, {15, 2, 9, 3, 16}, {15, 3, 21, 27, 16},
            {20, 2, 19, 18, 26}, {20, 3, 21, 22, 26}, {13, 2, 19, 25, 12}, {13, 3, 7, 1, 12}};
        for (int[] t : turns) {
            OneWindow x = new OneWindow();
            x.window(0, 14);
            x.cell(t[0], t[1]);
            String mirror = "mirror " + t[1] + " in " + t[0] + ": ";
            due(mirror + "itself", x.light(0, t[0]), 8);
            due(mirror + "next", x.light(0, t[2]), 7);
            due(mirror + "behind", x.light(0, t[3]), 6);
            due(mirror + "straight on", x.light(0, t[4]), 0);
        }
    }

    private static void lightEdges() {
        Due.part("promise 8, edges");
        OneWindow x = new OneWindow();
        x.window(0, 14);
        x.cell(14, 1);
        due("in a wall", x.light(0, 14), 9);
        due("out of a wall", x.light(0, 15), 8);
        x.cell(14, 2);
        due("in a mirror", x.light(0, 14), 9);
        due("east out of a mirror", x.light(0, 17), 6);
        due("west out of a mirror", x.light(0, 12), 7);
        x.cell(14, 0);
        x.cell(15, 1);
        due("a wall is dark", x.light(0, 15), 0);
        due("behind a wall", x.light(0, 16), 0);
        x.cell(15, 0);
        x.cell(16, 2);
        x.cell(4, 3);
        x.cell(2, 2);
        due("by two mirrors", x.light(0, 4), 5);
        due("the nearer ray counts", x.light(0, 2), 7);
        due("between them, by the nearer ray", x.light(0, 3), 6);
        x.cell(2, 1);
        due("around three corners to a wall", x.light(0, 3), 4);
        x.cell(2, 0);
        x.cell(2, 2);
        x.cell(8, 1);
        due("around three corners", x.light(0, 2), 3);
        due("not on into a wall", x.light(0, 8), 0);
        OneWindow y = new OneWindow();
        y.window(39, 35);
        due("shines", y.light(0, 35), 21);
        due("to the corner", y.light(0, 5), 16);
        due("not around it", y.light(0, 4), 0);
    }

    private static void person() {
        Due.part("promise 9");
        OneWindow x = new OneWindow();
        due("person(-1, 1)", x.person(-1, 1), BEYOND);
        due("person(36, 1)", x.person(36, 1), BEYOND);
        due("person(0, 0)", x.person(0, 0), BEYOND);
        due("person(0, 21)", x.person(0, 21), BEYOND);
        due("count(2)", x.count(2), 0);
        for (int p = 0; p < 10; p++) {
            due("person " + p, x.person(p == 9 ? 35 : 3, p == 9 ? 20 : 1 + p), p);
        }
        due("one more", x.person(0, 1), FULL);
        due("one more beyond", x.person(36, 1), BEYOND);
        due("one more beyond", x.person(0, 21), BEYOND);
        due("count(2)", x.count(2), 10);
        due("need", x.ofPerson(9, 1), 20);
    }

    private static void ofPerson() {
        Due.part("promise 10");
        OneWindow x = new OneWindow();
        x.window(0, 7);
        x.person(7, 4);
        x.turn(0);
        due("CELL", x.ofPerson(0, 0), 7);
        due("NEED", x.ofPerson(0, 1), 4);
        due("EGGS", x.ofPerson(0, 2), 20);
        due("READ", x.ofPerson(0, 3), 0);
        due("WANTS", x.ofPerson(0, 4), 4);
        x.nights(3);
        due("EGGS then", x.ofPerson(0, 2), 17);
        due("READ then", x.ofPerson(0, 3), 3);
        Due.write(x, 1, "n*1000+e");
        due("WANTS, held", x.ofPerson(0, 4), 99);
        Due.write(x, 1, "n*10+e+r-t");
        due("WANTS by a text", x.ofPerson(0, 4), 57);
        due("ofPerson(0, -1)", x.ofPerson(0, -1), BEYOND);
        due("ofPerson(0, 5)", x.ofPerson(0, 5), BEYOND);
        due("ofPerson(1, 0)", x.ofPerson(1, 0), BEYOND);
        due("ofPerson(-1, 0)", x.ofPerson(-1, 0), BEYOND);
    }

    private static void change() {
        Due.part("promise 11");
        OneWindow x = new OneWindow();
        x.person(4, 5);
        due("change(0, 0, 35)", x.change(0, 0, 35), 4);
        due("change(0, 1, 20)", x.change(0, 1, 20), 5);
        due("change(0, 2, 9999)", x.change(0, 2, 9999), 20);
        int[][] beyond = {{0, 0, -1}, {0, 0, 36}, {0, 1, 0}, {0, 1, 21}, {0, 2, -1}, {0, 2, 10000},
            {0, 3, 1}, {0, 4, 1}, {0, -1, 1}, {1, 0, 1}, {-1, 0, 1}};
        for (int[] b : beyond) {
            due("change(" + b[0] + ", " + b[1] + ", " + b[2] + ")", x.change(b[0], b[1], b[2]), BEYOND);
        }
        due("change(0, 0, 0)", x.change(0, 0, 0), 35);
        due("change(0, 1, 1)", x.change(0, 1, 1), 20);
        due("change(0, 2, 0)", x.change(0, 2, 0), 9999);
        due("cell", x.ofPerson(0, 0), 0);
        due("need", x.ofPerson(0, 1), 1);
        due("eggs", x.ofPerson(0, 2), 0);
    }

    private static void met() {
        Due.part("promise 12");
        OneWindow x = new OneWindow();
        x.window(0, 14);
        x.window(0, 35);
        due("nobody", x.met(0), 0);
        x.person(14, 9);
        x.person(14, 10);
        x.person(15, 8);
        x.person(16, 8);
        x.person(0, 1);
        due("met(0)", x.met(0), 0b00101);
        due("met(1)", x.met(1), 0);
        Due.write(x, 1, "n-2");
        due("by another text", x.met(0), 0b01111);
        x.cell(15, 1);
        due("behind a wall", x.met(0), 0b00011);
        due("met(2)", x.met(2), BEYOND);
        due("met(-1)", x.met(-1), BEYOND);
    }

    private static void turns() {
        Due.part("promises 13, 14, 15");
        OneWindow x = new OneWindow();
        due("turn(0)", x.turn(0), BEYOND);
        due("lit()", x.lit(), NONE);
        x.window(0, 0);
        x.window(0, 1);
        x.window(0, 2);
        due("turn(2)", x.turn(2), 1);
        due("turn(0)", x.turn(0), 2);
        due("turn(2)", x.turn(2), 3);
        due("turn(1)", x.turn(1), 4);
        due("turn(3)", x.turn(3), BEYOND);
        due("turn(-1)", x.turn(-1), BEYOND);
        int[] row = {2, 0, 2, 1, 2, 0};
        for (int i = 0; i < row.length; i++) {
            due("lit() on " + i, x.lit(), row[i]);
            x.nights(1);
        }
        due("clear()", x.clear(), 4);
        due("clear()", x.clear(), 0);
        due("lit()", x.lit(), NONE);
        for (int i = 1; i <= 12; i++) {
            due("turn", x.turn(1), i);
        }
        due("one more", x.turn(1), FULL);
        due("one more beyond", x.turn(3), BEYOND);
        due("count(3)", x.count(3), 12);
        due("told(4)", x.told(4), 1);
    }

    private static void seed() {
        Due.part("promise 28");
        OneWindow x = new OneWindow();
        due("seed(MIN)", x.seed(Integer.MIN_VALUE), 1);
        due("seed(low)", x.seed(BEYOND), Integer.MIN_VALUE);
        due("seed(0), no error", x.seed(0), BEYOND);
        due("told(1)", x.told(1), 0);
        due("count(10)", x.count(10), 0);
    }

    private static void spoken(int kind, int act, int want, int... bodies) {
        OneWindow x = new OneWindow();
        x.window(0, 0);
        x.window(10 * kind + 2, 0);
        String which = "kind " + kind + " act " + act;
        due(which, x.voice(1, act, 5), want);
        due(which + ", how many bodies", x.count(9), bodies.length);
        for (int i = 0; i < bodies.length; i++) {
            due(which + ", body " + i, x.trace(i), bodies[i]);
        }
        due(which + ", behind them", x.trace(bodies.length), NONE);
    }

    /** A lamp of each kind in window 1, with m = 2, for x = 5. */
    private static void voice() {
        Due.part("promises 29, 30");
        spoken(0, 0, 6, 10);
        spoken(0, 1, 12, 11, 10);
        spoken(0, 2, 3, 12);
        spoken(0, 3, 15, 13, 11, 10, 12);
        spoken(1, 0, 6, 10);
        spoken(1, 1, 13, 20, 11, 10, 12);
        spoken(1, 2, 3, 12);
        spoken(1, 3, 14, 13, 20, 11, 10, 12, 12);
        spoken(2, 0, 18, 30, 10);
        spoken(2, 1, 36, 11, 30, 10);
        spoken(2, 2, 3, 12);
        spoken(2, 3, 39, 13, 11, 30, 10, 12);
        spoken(3, 0, 6, 10);
        spoken(3, 1, 12, 11, 10);
        spoken(3, 2, -3, 40, 12);
        spoken(3, 3, -15, 13, 11, 10, 40, 12);
        spoken(4, 0, 6, 10);
        spoken(4, 1, 15, 50, 20, 11, 10, 12);
        spoken(4, 2, 3, 12);
        spoken(4, 3, 12, 13, 50, 20, 11, 10, 12, 12);
        spoken(5, 0, 18, 30, 10);
        spoken(5, 1, 36, 11, 30, 10);
        spoken(5, 2, 3, 12);
        spoken(5, 3, 30, 60, 13, 11, 30, 10, 12, 30, 10);
        spoken(6, 0, 6, 10);
        spoken(6, 1, 12, 11, 10);
        spoken(6, 2, -4, 70, 40, 12);
        spoken(6, 3, 28, 71, 11, 10, 13, 11, 10, 70, 40, 12);
    }

    private static void traceOfErrors() {
        Due.part("promises 29, 30, wrong inputs");
        OneWindow x = new OneWindow();
        due("voice(0, 0, 0)", x.voice(0, 0, 0), BEYOND);
        x.window(9, 0);
        due("round", x.voice(0, 1, Integer.MAX_VALUE), -2);
        due("an answer that low", x.voice(0, 0, BEYOND), BEYOND);
        due("told(1)", x.told(1), 1);
        due("voice(0, 3, 0)", x.voice(0, 3, 0), 0 ^ -9);
        due("voice(0, 4, 0)", x.voice(0, 4, 0), BEYOND);
        due("voice(0, -1, 0)", x.voice(0, -1, 0), BEYOND);
        due("voice(1, 0, 0)", x.voice(1, 0, 0), BEYOND);
        due("the trace stays", x.count(9), 4);
        due("trace(0)", x.trace(0), 13);
        due("trace(-1)", x.trace(-1), NONE);
        due("trace(4)", x.trace(4), NONE);
        due("trace(40)", x.trace(40), NONE);
    }

    private static void sheet() {
        Due.part("promise 31");
        OneWindow x = new OneWindow();
        due("sheet(0, 8, 0)", x.sheet(0, 8, 0), 1);
        due("no number", x.put(0, 0, 0), BEYOND);
        due("sheet(3, 32, 40)", x.sheet(3, 32, 40), 1);
        due("the last", x.put(3, 39, 7), 1);
        due("sheet(3, 32, 41)", x.sheet(3, 32, 41), BEYOND);
        due("sheet(3, 32, -1)", x.sheet(3, 32, -1), STATE);
        due("sheet(3, 32, MIN)", x.sheet(3, 32, Integer.MIN_VALUE), STATE);
        due("sheet(3, 7, -1)", x.sheet(3, 7, -1), BEYOND);
        due("sheet(3, -8, 1)", x.sheet(3, -8, 1), BEYOND);
        due("sheet(4, 8, -1)", x.sheet(4, 8, -1), BEYOND);
        due("sheet(-1, 8, 1)", x.sheet(-1, 8, 1), BEYOND);
        due("sheet(4, 0, 1)", x.sheet(4, 0, 1), BEYOND);
        x.window(0, 0);
        x.put(3, 0, 9);
        for (int c = 1; c < 6; c++) {
            x.put(3, c, 9 - c);
            x.put(3, 6 * c, 9 - c);
        }
        due("errors left it", x.judge(3, 0), 36);
        due("anew", x.sheet(3, 32, 3), 1);
        due("all 0", x.judge(3, 0), 0);
        due("missing, n -9", x.sheet(3, 0, -9), 1);
        due("cells(3)", x.cells(3), NONE);
        due("missing, n 99", x.sheet(3, 0, 99), 1);
    }

    private static void put() {
        Due.part("promise 32");
        OneWindow x = new OneWindow();
        due("missing", x.put(0, 0, 0), NONE);
        due("missing, no number", x.put(0, 99, 0), NONE);
        due("put(4, ..)", x.put(4, 0, 0), BEYOND);
        due("put(-1, ..)", x.put(-1, 0, 0), BEYOND);
        x.sheet(0, 8, 3);
        x.sheet(1, 16, 3);
        x.sheet(2, 32, 3);
        due("put(0, 3, 1)", x.put(0, 3, 1), BEYOND);
        due("put(0, -1, 1)", x.put(0, -1, 1), BEYOND);
        for (int s = 0; s < 3; s++) {
            due("put", x.put(s, 0, 0xAB010002), 1);
            due("put", x.put(s, 1, 0x00000103), 1);
            due("put", x.put(s, 2, 0x00FFFF00), 1);
        }
        due("of 8 bits", x.cells(0), 3);
        due("of 8 bits", x.cell(0, 0), 2);
        due("of 8 bits", x.cell(1, 0), 3);
        due("of 8 bits", x.cell(2, 0), 0);
        due("of 16 bits", x.cells(1), 1);
        due("of 32 bits", x.cells(2), 0);
        x.put(1, 1, 0x70000);
        due("of 16 bits", x.cells(1), 2);
        x.put(0, 0, 0x83);
        due("the highest of 8 bits", x.cells(0), 0);
        x.put(1, 0, 0x8003);
        due("the highest of 16 bits", x.cells(1), 0);
        x.put(2, 0, 0x80000003);
        due("the highest of 32 bits", x.cells(2), 0);
        x.put(0, 0, -1);
        due("-1 in 8 bits", x.cells(0), 0);
        x.put(1, 0, -1);
        due("-1 in 16 bits", x.cells(1), 0);
        x.put(2, 0, -1);
        due("-1 in 32 bits", x.cells(2), 0);
    }

    private static void wallsOf(OneWindow x, int sheet, String want) {
        for (int c = 0; c < 36; c++) {
            x.cell(c, 0);
        }
        x.cells(sheet);
        for (int c = 0; c < want.length(); c++) {
            due("number " + c + " of sheet " + sheet, x.cell(c, 0), want.charAt(c) - '0');
        }
    }

    private static void move() {
        Due.part("promise 33");
        OneWindow x = new OneWindow();
        x.sheet(0, 8, 6);
        int[] row = {1, 2, 3, 1, 2, 3};
        for (int i = 0; i < 6; i++) {
            x.put(0, i, row[i]);
        }
        due("move(0, 0, 1, 0, 1)", x.move(0, 0, 1, 0, 1), NONE);
        due("move(1, 0, 0, 0, 1)", x.move(1, 0, 0, 0, 1), NONE);
        due("missing, ahead of the rest", x.move(0, -1, 1, -1, -1), NONE);
        due("move(0, 0, 4, 0, 1)", x.move(0, 0, 4, 0, 1), BEYOND);
        due("move(-1, 0, 0, 0, 1)", x.move(-1, 0, 0, 0, 1), BEYOND);
        due("no such sheet, ahead of a missing one", x.move(1, 0, 4, 0, 1), BEYOND);
        x.sheet(1, 16, 6);
        due("unlike", x.move(0, 0, 1, 0, 1), KIND);
        due("unlike, ahead of the rest", x.move(0, -1, 1, 9, 99), KIND);
        x.sheet(1, 8, 4);
        int max = Integer.MAX_VALUE;
        int[][] beyond = {{-1, 0, 1}, {0, -1, 1}, {0, 0, -1}, {6, 0, 1}, {0, 4, 1}, {0, 0, 5}, {3, 0, 4}, {0, 1, 4},
            {max, 0, max}, {0, max, max}, {1, 0, max}, {0, 1, max}, {7, 0, 0}, {0, 5, 0}};
        for (int[] b : beyond) {
            due("move(0, " + b[0] + ", 1, " + b[1] + ", " + b[2] + ")", x.move(0, b[0], 1, b[1], b[2]), BEYOND);
        }
        due("none at the ends", x.move(0, 6, 1, 4, 0), 0);
        due("some", x.move(0, 1, 1, 2, 2), 2);
        wallsOf(x, 1, "0023");
        wallsOf(x, 0, "123123");
        due("up in itself", x.move(0, 0, 0, 1, 5), 5);
        wallsOf(x, 0, "112312");
        due("down in itself", x.move(0, 2, 0, 0, 4), 4);
        wallsOf(x, 0, "231212");
        due("all", x.move(1, 0, 0, 2, 4), 4);
        wallsOf(x, 0, "230023");
    }

    private static void cells() {
        Due.part("promise 34");
        OneWindow x = new OneWindow();
        due("cells(4)", x.cells(4), BEYOND);
        due("cells(-1)", x.cells(-1), BEYOND);
        due("cells(0)", x.cells(0), NONE);
        x.sheet(0, 8, 5);
        x.put(0, 0, 3);
        x.put(0, 1, 1);
        x.put(0, 3, 4);
        x.put(0, 4, 1);
        x.cell(2, 2);
        x.cell(3, 2);
        x.cell(4, 2);
        due("up to a 4", x.cells(0), 3);
        int[] want = {3, 1, 0, 2, 2};
        for (int c = 0; c < 5; c++) {
            due("cell " + c, x.cell(c, 0), want[c]);
        }
        x.sheet(1, 16, 40);
        for (int i = 30; i < 40; i++) {
            x.put(1, i, 1);
        }
        due("36 at most", x.cells(1), 36);
        due("the last", x.cell(35, 0), 1);
        x.sheet(1, 16, 0);
        due("of no numbers", x.cells(1), 0);
    }

    private static void judge() {
        Due.part("promise 35");
        OneWindow x = new OneWindow();
        due("judge(4, 0)", x.judge(4, 0), BEYOND);
        due("no window, ahead of missing", x.judge(0, 0), BEYOND);
        x.window(0, 1);
        due("missing", x.judge(0, 0), NONE);
        due("judge(-1, 0)", x.judge(-1, 0), BEYOND);
        due("judge(0, -1)", x.judge(0, -1), BEYOND);
        due("judge(0, 1)", x.judge(0, 1), BEYOND);
        x.sheet(0, 8, 0);
        due("of no numbers", x.judge(0, 0), 0);
        x.sheet(0, 8, 40);
        due("the first", x.judge(0, 0), 0);
        int[] first = {8, 9, 8, 7, 6, 5};
        for (int c = 0; c < 6; c++) {
            x.put(0, c, first[c]);
        }
        for (int c = 7; c < 36; c += 6) {
            due("so far", x.judge(0, 0), c);
            x.put(0, c, 9 - c / 6);
        }
        due("all", x.judge(0, 0), 36);
        x.put(0, 36, 77);
        due("the rest doesn't matter", x.judge(0, 0), 36);
        x.put(0, 3, 7 + 256);
        due("lowest bits", x.judge(0, 0), 36);
        x.put(0, 35, 255);
        due("the last is off", x.judge(0, 0), 35);
        x.sheet(1, 32, 2);
        x.put(1, 0, 8);
        x.put(1, 1, 9);
        due("as many as there are", x.judge(1, 0), 2);
    }

    private static void image() {
        Due.part("promises 36, 37");
        OneWindow x = new OneWindow();
        due("restore()", x.restore(), NONE);
        x.nights(7);
        due("image()", x.image(), 1);
        x.nights(5);
        due("image()", x.image(), 2);
        x.nights(1);
        due("restore()", x.restore(), 12);
        due("count(0)", x.count(0), 12);
        due("told(2)", x.told(2), 1);
        x.nights(1);
        due("restore(), it stays", x.restore(), 12);
        due("image(), counted on", x.image(), 3);
    }

    private static void imageKeepsAll() {
        Due.part("promises 36, 37, all");
        OneWindow x = new OneWindow();
        x.window(13, 3);
        x.person(3, 4);
        x.turn(0);
        x.nights(2);
        x.cell(9, 2);
        x.set(0, 1);
        x.set(1, 2);
        x.seed(77);
        x.tell(5);
        Due.write(x, 0, "d+2");
        Due.write(x, 1, "n+1");
        Due.feed(x, "n+");
        x.sheet(0, 8, 3);
        x.voice(0, 1, 1);
        due("image()", x.image(), 1);
        x.window(0, 0);
        x.become(0, 69);
        x.person(0, 1);
        x.change(0, 0, 8);
        x.change(0, 1, 9);
        x.clear();
        x.turn(1);
        x.nights(3);
        x.cell(9, 1);
        x.set(0, 4);
        x.set(1, 5);
        x.seed(78);
        x.check();
        x.text(0);
        Due.write(x, 0, "d+3");
        Due.write(x, 1, "n+3");
        Due.feed(x, "1");
        x.sheet(0, 0, 0);
        x.voice(0, 3, 1);
        due("an error", x.cell(36, 0), BEYOND);
        due("restore()", x.restore(), 2);
        due("windows", x.count(1), 1);
        due("kind", x.ofWindow(0, 0), 1);
        due("m", x.ofWindow(0, 1), 3);
        due("eggs of the window", x.ofWindow(0, 3), 2);
        due("people", x.count(2), 1);
        due("seat", x.ofPerson(0, 0), 3);
        due("need", x.ofPerson(0, 1), 4);
        due("eggs", x.ofPerson(0, 2), 18);
        due("read", x.ofPerson(0, 3), 2);
        due("turns", x.count(3), 1);
        due("lit", x.lit(), 0);
        due("cell", x.cell(9, 2), 2);
        due("fog", x.set(0, 1), 1);
        due("rent", x.set(1, 2), 2);
        due("z", x.count(10), 77);
        due("waits", x.count(8), 1);
        due("law of fades", x.law(0, 0, 5, 0, 0), 7);
        due("law of wants", x.law(1, 5, 0, 0, 0), 6);
        due("tape", x.count(7), 2);
        due("the tape's text", x.text(1), -12);
        due("the sheet is not kept", x.cells(0), NONE);
        due("the trace is not kept", x.trace(0), 71);
        due("errors are counted on", x.told(1), 1);
        due("images are counted on", x.image(), 2);
    }

    private static OneWindow readingOne() {
        OneWindow x = new OneWindow();
        x.window(0, 3);
        x.person(3, 1);
        x.person(4, 1);
        x.turn(0);
        return x;
    }

    private static void tellAndCheck() {
        Due.part("promises 38, 39");
        OneWindow x = readingOne();
        due("none wait", x.check(), 0);
        due("tell(2)", x.tell(2), 1);
        due("tell(4)", x.tell(4), 2);
        due("tell(6)", x.tell(6), 3);
        due("count(8)", x.count(8), 3);
        due("check()", x.check(), 0);
        due("none wait then", x.count(8), 0);
        due("no night went by", x.count(0), 0);
        due("nobody read", x.count(4), 0);
        x.tell(2);
        x.tell(5);
        x.tell(7);
        due("the second isn't so", x.check(), 2);
        due("none wait then", x.count(8), 0);
        x.tell(-1);
        due("the first isn't so", x.check(), 1);
        x.nights(1);
        x.tell(4);
        x.tell(6);
        x.tell(9);
        due("the third isn't so", x.check(), 3);
        for (int i = 1; i <= 20; i++) {
            due("tell", x.tell(2 + 2 * i), i);
        }
        due("one more", x.tell(0), FULL);
        due("count(8)", x.count(8), 20);
        due("check()", x.check(), 0);
        due("told(4)", x.told(4), 1);
    }

    private static void checkEdges() {
        Due.part("promise 39, edges");
        OneWindow x = readingOne();
        for (int i = 0; i < 99; i++) {
            x.nights(100);
        }
        x.nights(99);
        due("count(0)", x.count(0), 9999);
        due("READ is 9999 at most", x.count(4), 2 * 9999);
        x.tell(2 * 9999);
        x.tell(2 * 9999);
        due("beyond the last night", x.check(), 0);
        for (int i = 1; i < 20; i++) {
            x.tell(2 * 9999);
        }
        x.tell(1);
        due("the last isn't so", x.check(), 20);
    }

    private static void count() {
        Due.part("promise 40");
        OneWindow x = readingOne();
        x.window(0, 35);
        x.turn(0);
        x.turn(1);
        x.set(0, 3);
        x.seed(-5);
        x.feed(0, 3);
        x.tell(1);
        x.voice(0, 1, 1);
        x.set(1, 3);
        x.nights(4);
        int[] want = {4, 2, 2, 3, 6, 40, 3, 3, 1, 2, -5};
        for (int what = 0; what < want.length; what++) {
            due("count(" + what + ")", x.count(what), want[what]);
        }
        due("eggs of the window", x.ofWindow(0, 3), 18);
        due("count(-1)", x.count(-1), BEYOND);
        due("count(11)", x.count(11), BEYOND);
        x.seed(NONE);
        due("z that low, no error", x.count(10), NONE);
        due("told(2)", x.told(2), 0);
    }

    private static void told() {
        Due.part("promise 41");
        OneWindow x = new OneWindow();
        x.window(0, 0);
        x.cell(36, 0);
        x.lit();
        x.trace(0);
        x.sheet(0, 8, -1);
        x.as(0, 1);
        x.as(0, 2);
        x.as(0, 3);
        for (int i = 0; i < 24; i++) {
            x.tell(0);
        }
        due("told(1)", x.told(1), 1);
        due("told(2)", x.told(2), 2);
        due("told(3)", x.told(3), 1);
        due("told(4)", x.told(4), 4);
        due("told(5)", x.told(5), 3);
        due("told(0)", x.told(0), BEYOND);
        due("told(6)", x.told(6), BEYOND);
        due("told(-1)", x.told(-1), BEYOND);
        due("told(1), those too", x.told(1), 4);
        due("told(2)", x.told(2), 2);
        x.text(0);
        due("a fault is no error", x.told(1), 4);
    }
}
