/** Each boundary that the document names in the ERRORS, in term 1 and in promises 1 to 15. */
public final class EdgesOfVillage {
    /** A village with something everywhere, in which a refused call could break something. */
    static final String[] VILLAGE = {
        "window(3, 14)", "window(45, 21)", "window(68, 0)", "person(16, 8)", "person(21, 3)", "person(0, 5)",
        "turn(1)", "turn(0)", "turn(2)", "turn(0)", "set(0, 1)", "set(1, 2)", "cell(10, 2)", "cell(4, 3)", "cell(26, 1)",
        "tape n+r%3", "text(1)", "tape d+f+(l>12)", "text(0)", "seed(77)",
        "sheet(0, 8, 40)", "put(0, 0, 3)", "put(0, 5, 1)", "put(0, 39, 2)", "sheet(1, 16, 5)", "put(1, 4, 3)",
        "sheet(2, 32, 1)", "put(2, 0, 2)", "nights(5)", "image()", "nights(2)", "cell(3, 2)", "set(1, 3)",
        "tape n*2+e", "voice(2, 3, 7)", "tell(4)", "tell(5)"};

    /** Six windows, ten people, twelve turns. */
    static final String[] FULL = {
        "window(0, 0) = 0", "window(11, 7) = 1", "window(22, 14) = 2", "window(33, 21) = 3", "window(44, 28) = 4",
        "window(55, 35) = 5", "person(0, 1) = 0", "person(1, 20) = 1", "person(7, 3) = 2", "person(8, 4) = 3",
        "person(14, 5) = 4", "person(15, 6) = 5", "person(21, 7) = 6", "person(28, 8) = 7", "person(35, 7) = 8",
        "person(34, 1) = 9", "turn(0) = 1", "turn(1) = 2", "turn(2) = 3", "turn(3) = 4", "turn(4) = 5", "turn(5) = 6",
        "turn(5) = 7", "turn(3) = 8", "turn(1) = 9", "turn(0) = 10", "turn(2) = 11", "turn(4) = 12"};

    /** What else there may be in a full village: texts, sheets, a trace, an image, bytes, numbers that wait. */
    static final String[] HOUSE = Edge.in(FULL, "tape n+r%3", "text(1)", "tape d+f+(l>12)", "text(0)", "seed(77)", "set(1, 2)",
        "cell(10, 2)", "cell(4, 3)", "cell(26, 1)", "sheet(0, 8, 40)", "put(0, 0, 3)", "put(0, 5, 1)", "put(0, 39, 2)",
        "sheet(1, 16, 5)", "put(1, 4, 3)", "sheet(2, 32, 1)", "nights(5)", "image()", "set(0, 1)", "nights(2)",
        "tape n*2+e", "voice(2, 3, 7)", "tell(4)", "tell(5)");

    private EdgesOfVillage() {
    }

    public static void main(String[] args) {
        lastCalls();
        errors();
        aNewObject();
        cell();
        set();
        window();
        windowsAreSix();
        ofWindow();
        shines();
        shinesOnTheLastNight();
        dims();
        become();
        as();
        light();
        raysEnd();
        borders();
        mirrors();
        person();
        peopleAreTen();
        ofPerson();
        change();
        isMet();
        turn();
        lit();
        Due.finish("EdgesOfVillage");
    }

    private static void edge(String sentence, String... lines) {
        Edge.edge(sentence, lines);
    }

    private static String[] in(String[] scene, String... lines) {
        return Edge.in(scene, lines);
    }

    private static void lastCalls() {
        edge("an object is used for 512 calls", "image() x510 = 510", "restore() = 0", "image() = 511");
        Due.part("an object is used for 512 calls, all refused but the last");
        OneWindow x = new OneWindow();
        for (int i = 0; i < 511; i++) {
            Due.due("call " + i, x.lit(), Due.NONE);
        }
        Due.due("call 511", x.told(2), 511);
    }

    private static void errors() {
        Due.part("ERRORS: LOW is -1000000000; LOW - 1 BEYOND .. LOW - 5 KIND");
        OneWindow x = new OneWindow();
        x.window(0, 0);
        Due.due("BEYOND", x.cell(36, 0), -1000000001);
        Due.due("NONE", x.lit(), -1000000002);
        Due.due("STATE", x.sheet(0, 8, -1), -1000000003);
        for (int i = 0; i < 12; i++) {
            x.turn(0);
        }
        Due.due("FULL", x.turn(0), -1000000004);
        Due.due("KIND", x.as(0, 1), -1000000005);
    }

    private static void aNewObject() {
        edge("1: all as at first", "count(0) = 0", "count(1) = 0", "count(2) = 0", "count(3) = 0", "count(4) = 0",
            "count(5) = 0", "count(6) = 0", "count(7) = 0", "count(8) = 0", "count(9) = 0", "count(10) = 1",
            "told(1) = 0", "told(2) = 0", "told(3) = 0", "told(4) = 0", "told(5) = 0", "set(1, 1) = 1");
        for (int c = 0; c < 36; c++) {
            edge("1: each CELL is a YARD at first", "cell(" + c + ", 1) = 0", "cell(" + c + ", 0) = 1");
        }
        edge("1: no WINDOWS", "ofWindow(0, 0) = BEYOND", "become(0, 0) = BEYOND", "as(0, 0) = BEYOND",
            "light(0, 0) = BEYOND", "met(0) = BEYOND", "turn(0) = BEYOND", "thenEggs(0, 0) = BEYOND", "seat(0) = BEYOND",
            "curtain(0, 0) = BEYOND", "mirrors(0, 0, 1, 0) = BEYOND", "voice(0, 0, 0) = BEYOND", "judge(0, 0) = BEYOND",
            "whose(0) = 0", "order(-1) = 0", "order(0) = NONE", "lit() = NONE", "clear() = 0", "told(1) = 12");
        edge("1: no PEOPLE", "ofPerson(0, 0) = BEYOND", "change(0, 0, 0) = BEYOND", "then(0, 0, 0) = BEYOND",
            "whose(1) = BEYOND", "told(1) = 4", "nights(1) = 0", "count(5) = 0");
        edge("1: no SHEETS, TEXTS, IMAGE, TRACE", "cells(0) = NONE", "cells(1) = NONE", "cells(2) = NONE",
            "cells(3) = NONE", "restore() = NONE", "trace(0) = NONE", "law(0, 3, 4, 9, 9) = 7", "law(1, 3, 9, 9, 9) = 3",
            "check() = 0", "image() = 1", "told(2) = 6");
    }

    private static void cell() {
        edge("2: a CELL is 0 to 35", in(VILLAGE, "cell(0, 1) = 0", "cell(35, 1) = 0", "cell(-1, 1) = BEYOND",
            "cell(36, 1) = BEYOND", "cell(MIN, 1) = BEYOND", "cell(MAX, 1) = BEYOND", "cell(0, 0) = 1", "cell(35, 0) = 1"));
        edge("2: it becomes 0 to 3", in(VILLAGE, "cell(7, 3) = 0", "cell(7, 0) = 3", "cell(7, -1) = BEYOND",
            "cell(7, 4) = BEYOND", "cell(7, MIN) = BEYOND", "cell(7, MAX) = BEYOND", "cell(7, 1) = 0", "cell(7, 2) = 1",
            "cell(7, 4) = BEYOND", "cell(7, -1) = BEYOND", "cell(7, 3) = 2", "cell(7, 3) = 3"));
        edge("2: others stay as they were", "cell(8, 1) = 0", "cell(9, 2) = 0", "cell(10, 3) = 0", "cell(9, 0) = 2",
            "cell(8, 1) = 1", "cell(10, 3) = 3");
    }

    private static void set() {
        edge("3: FOG is 0 to 9", in(VILLAGE, "set(0, 9) = 1", "count(6) = 9", "set(0, 10) = BEYOND", "set(0, -1) = BEYOND",
            "set(0, MIN) = BEYOND", "set(0, MAX) = BEYOND", "set(0, 0) = 9", "set(0, 0) = 0", "count(6) = 0"));
        edge("3: RENT is 0 to 9", in(VILLAGE, "set(1, 9) = 3", "set(1, 10) = BEYOND", "set(1, -1) = BEYOND",
            "set(1, MIN) = BEYOND", "set(1, MAX) = BEYOND", "set(1, 0) = 9", "set(1, 1) = 0", "count(6) = 1"));
        edge("3: what is 0 or 1", in(VILLAGE, "set(2, 1) = BEYOND", "set(-1, 1) = BEYOND", "set(MIN, 1) = BEYOND",
            "set(MAX, 1) = BEYOND", "set(0, 4) = 1", "set(1, 4) = 3"));
        edge("3: FOG is 0, RENT 1 at first", "set(1, 1) = 1", "set(0, 0) = 0");
    }

    private static void window() {
        edge("4: km is 0 to 69", in(VILLAGE, "window(-1, 5) = BEYOND", "window(70, 5) = BEYOND", "window(MIN, 5) = BEYOND",
            "window(MAX, 5) = BEYOND", "window(0, 5) = 3", "window(69, 5) = 4", "ofWindow(3, 0) = 0", "ofWindow(3, 1) = 0",
            "ofWindow(4, 0) = 6", "ofWindow(4, 1) = 9", "count(1) = 5"));
        edge("4: it is in a CELL, 0 to 35", in(VILLAGE, "window(5, -1) = BEYOND", "window(5, 36) = BEYOND",
            "window(5, MIN) = BEYOND", "window(5, MAX) = BEYOND", "window(5, 0) = 3", "window(5, 35) = 4",
            "ofWindow(3, 2) = 0", "ofWindow(4, 2) = 35"));
        edge("4: a KIND ends with m 9, the next begins with m 0", "window(9, 1) = 0", "window(10, 1) = 1", "window(19, 1) = 2",
            "window(20, 1) = 3", "window(29, 1) = 4", "window(30, 1) = 5", "ofWindow(0, 0) = 0", "ofWindow(0, 1) = 9",
            "ofWindow(1, 0) = 1", "ofWindow(1, 1) = 0", "ofWindow(2, 0) = 1", "ofWindow(2, 1) = 9", "ofWindow(3, 0) = 2",
            "ofWindow(3, 1) = 0", "ofWindow(4, 0) = 2", "ofWindow(4, 1) = 9", "ofWindow(5, 0) = 3", "ofWindow(5, 1) = 0");
        edge("4: a KIND ends with m 9, the next begins with m 0", "window(39, 1) = 0", "window(40, 1) = 1", "window(49, 1) = 2",
            "window(50, 1) = 3", "window(59, 1) = 4", "window(60, 1) = 5", "ofWindow(0, 0) = 3", "ofWindow(0, 1) = 9",
            "ofWindow(1, 0) = 4", "ofWindow(1, 1) = 0", "ofWindow(2, 0) = 4", "ofWindow(2, 1) = 9", "ofWindow(3, 0) = 5",
            "ofWindow(3, 1) = 0", "ofWindow(4, 0) = 5", "ofWindow(4, 1) = 9", "ofWindow(5, 0) = 6", "ofWindow(5, 1) = 0");
        edge("4: EGGS of a new one are 0", "window(0, 0) = 0", "ofWindow(0, 3) = 0", "thenEggs(0, 0) = 0");
        edge("4: two may be in a CELL, also in that of a WALL", "cell(3, 1) = 0", "window(0, 3) = 0", "window(30, 3) = 1",
            "light(0, 3) = 9", "light(1, 3) = 12", "cell(3, 1) = 1");
    }

    private static void windowsAreSix() {
        edge("4: WINDOWS are 6 at most", "window(0, 0) = 0", "window(0, 1) = 1", "window(0, 2) = 2", "window(0, 3) = 3",
            "window(0, 4) = 4", "count(1) = 5", "window(0, 5) = 5", "count(1) = 6", "window(0, 6) = FULL", "count(1) = 6");
        edge("4: BEYOND is asked ahead of FULL", in(HOUSE, "window(69, 35) = FULL", "window(70, 35) = BEYOND",
            "window(-1, 0) = BEYOND", "window(0, 36) = BEYOND", "window(0, -1) = BEYOND", "ofWindow(5, 2) = 35",
            "ofWindow(6, 2) = BEYOND"));
    }

    private static void ofWindow() {
        edge("5: a WINDOW is one of those that there are", in(VILLAGE, "ofWindow(0, 0) = 0", "ofWindow(2, 0) = 6",
            "ofWindow(3, 0) = BEYOND", "ofWindow(-1, 0) = BEYOND", "ofWindow(MIN, 0) = BEYOND", "ofWindow(MAX, 0) = BEYOND"));
        edge("5: what is 0 to 6", in(VILLAGE, "ofWindow(1, 0) = 4", "ofWindow(1, 1) = 5", "ofWindow(1, 2) = 21",
            "ofWindow(1, 6) = 0", "ofWindow(1, 7) = BEYOND", "ofWindow(1, -1) = BEYOND", "ofWindow(1, MIN) = BEYOND",
            "ofWindow(1, MAX) = BEYOND"));
        edge("5: none are MET, one is, all are", "window(0, 0) = 0", "ofWindow(0, 6) = 0", "person(35, 1) = 0",
            "ofWindow(0, 6) = 0", "person(0, 1) = 1", "ofWindow(0, 6) = 1", "change(0, 0, 0) = 35", "ofWindow(0, 6) = 2",
            "person(0, 1) x8 = 9", "ofWindow(0, 6) = 10");
    }

    /** By KIND: on nights 0, 1, 2, 3 and 6, with m 0, 1, 9. */
    private static void shines() {
        int[][] m0 = {{9, 9, 9, 9, 9}, {4, 4, 4, 4, 4}, {7, 7, 7, 7, 7}, {12, 12, 12, 12, 12}, {4, 0, 4, 0, 4},
            {7, 7, 7, 7, 7}, {0, 12, 12, 0, 0}};
        int[][] m1 = {{10, 10, 10, 10, 10}, {5, 5, 5, 5, 5}, {8, 8, 8, 8, 8}, {13, 13, 13, 13, 13}, {5, 0, 5, 0, 5},
            {7, 7, 7, 7, 7}, {0, 13, 13, 0, 0}};
        int[][] m9 = {{18, 18, 18, 18, 18}, {9, 9, 9, 9, 9}, {16, 16, 16, 16, 16}, {21, 21, 21, 21, 21}, {9, 0, 9, 0, 9},
            {7, 7, 7, 7, 7}, {0, 21, 21, 0, 0}};
        for (int kind = 0; kind < 7; kind++) {
            shines(10 * kind, m0[kind]);
            shines(10 * kind + 1, m1[kind]);
            shines(10 * kind + 9, m9[kind]);
        }
    }

    private static void shines(int km, int[] want) {
        edge("term 1, SHINES: half is cut; 0 if NIGHT is odd; 0 if it is a multiple of 3 (0 is one); m is 0 to 9",
            "window(" + km + ", 20)", "ofWindow(0, 4) = " + want[0], "light(0, 20) = " + want[0], "nights(1) = 0",
            "ofWindow(0, 4) = " + want[1], "light(0, 20) = " + want[1], "nights(1) = 0", "ofWindow(0, 4) = " + want[2],
            "nights(1) = 0", "ofWindow(0, 4) = " + want[3], "nights(3) = 0", "ofWindow(0, 4) = " + want[4],
            "light(0, 20) = " + want[4]);
    }

    private static void shinesOnTheLastNight() {
        edge("term 1, SHINES: NIGHT 9998 is even, 9999 odd and a multiple of 3", "window(40, 0) = 0", "window(60, 0) = 1",
            "nights(100) x99 = 0", "nights(98) = 0", "ofWindow(0, 4) = 4", "ofWindow(1, 4) = 12", "nights(1) = 0",
            "ofWindow(0, 4) = 0", "ofWindow(1, 4) = 0", "light(0, 0) = 0", "light(1, 0) = 0");
    }

    private static void dims() {
        int[] want = {1, 1, 2, 1, 1, 3, 1};
        for (int kind = 0; kind < 7; kind++) {
            edge("term 1, DIMS of each KIND, whatever m and NIGHT are", "window(" + 10 * kind + ", 0)", "ofWindow(0, 5) = "
                + want[kind], "become(0, " + (10 * kind + 9) + ") = " + kind, "nights(1) = 0", "ofWindow(0, 5) = " + want[kind]);
        }
    }

    private static void become() {
        edge("6: a WINDOW is one of those that there are", in(VILLAGE, "become(3, 0) = BEYOND", "become(-1, 0) = BEYOND",
            "become(MIN, 0) = BEYOND", "become(MAX, 0) = BEYOND", "become(2, 0) = 6", "become(0, 0) = 0"));
        edge("6: km is 0 to 69", in(VILLAGE, "become(1, 70) = BEYOND", "become(1, -1) = BEYOND", "become(1, MIN) = BEYOND",
            "become(1, MAX) = BEYOND", "become(1, 69) = 4", "ofWindow(1, 0) = 6", "ofWindow(1, 1) = 9", "become(1, 0) = 6",
            "ofWindow(1, 0) = 0", "ofWindow(1, 1) = 0", "ofWindow(1, 2) = 21"));
        for (int kind = 0; kind < 7; kind++) {
            edge("6: the KIND that it was", "window(" + 10 * kind + ", 0)", "become(0, 0) = " + kind, "become(0, 0) = 0");
        }
    }

    private static void as() {
        edge("7: a WINDOW is one of those that there are", in(VILLAGE, "as(3, 0) = BEYOND", "as(-1, 0) = BEYOND",
            "as(MIN, 0) = BEYOND", "as(MAX, 0) = BEYOND", "as(2, 0) = 8", "as(0, 0) = 3"));
        edge("7: a KIND is 0 to 6", in(VILLAGE, "as(2, 6) = 8", "as(2, 7) = BEYOND", "as(2, -1) = BEYOND",
            "as(2, MIN) = BEYOND", "as(2, MAX) = BEYOND"));
        edge("7: BEYOND is asked ahead of KIND", in(VILLAGE, "as(0, 7) = BEYOND", "as(3, 1) = BEYOND", "as(0, 1) = KIND"));
        String[] as = {"0------", "01-----", "0-2----", "0--3---", "01--4--", "0-2--5-", "0--3--6"};
        for (int kind = 0; kind < 7; kind++) {
            for (int other = 0; other < 7; other++) {
                edge("7: KIND: it isn't of that KIND, nor of one under it", "window(" + (10 * kind + 4) + ", 0)",
                    "as(0, " + other + ") = " + (as[kind].charAt(other) == '-' ? "KIND" : "4"));
            }
        }
        edge("7: m 0 and m 9", "window(40, 0) = 0", "as(0, 1) = 0", "become(0, 49) = 4", "as(0, 4) = 9");
    }

    private static void light() {
        edge("8: a WINDOW is one of those that there are", in(VILLAGE, "light(3, 14) = BEYOND", "light(-1, 14) = BEYOND",
            "light(MIN, 14) = BEYOND", "light(MAX, 14) = BEYOND", "light(0, 14) = 12", "light(2, 0) = 20"));
        edge("8: a CELL is 0 to 35", in(VILLAGE, "light(0, -1) = BEYOND", "light(0, 36) = BEYOND", "light(0, MIN) = BEYOND",
            "light(0, MAX) = BEYOND", "light(0, 0) = 0", "light(0, 35) = 0", "light(0, 14) = 12"));
        edge("8: in its own CELL whatever is there", "window(0, 14) = 0", "light(0, 14) = 9", "cell(14, 1) = 0",
            "light(0, 14) = 9", "light(0, 15) = 8", "light(0, 13) = 8", "light(0, 8) = 8", "light(0, 20) = 8", "cell(14, 2) = 1",
            "light(0, 14) = 9", "light(0, 15) = 8", "light(0, 13) = 8", "light(0, 8) = 8", "light(0, 20) = 8", "cell(14, 3) = 2",
            "light(0, 14) = 9", "light(0, 15) = 8", "light(0, 13) = 8", "light(0, 8) = 8", "light(0, 20) = 8");
        edge("8: SHINES 0, so all is dark", "window(69, 14) = 0", "light(0, 14) = 0", "light(0, 15) = 0", "light(0, 8) = 0",
            "nights(1) = 0", "light(0, 14) = 21", "light(0, 15) = 20", "nights(2) = 0", "light(0, 14) = 0", "light(0, 15) = 0");
    }

    private static void raysEnd() {
        edge("8: 1 that is left is LIGHT, 0 ends it", "window(10, 12) = 0", "light(0, 12) = 4", "light(0, 13) = 3",
            "light(0, 14) = 2", "light(0, 15) = 1", "light(0, 16) = 0", "light(0, 17) = 0");
        edge("8: below 0 ends it, too", "window(20, 12) = 0", "light(0, 13) = 5", "light(0, 14) = 3", "light(0, 15) = 1",
            "light(0, 16) = 0", "become(0, 21) = 2", "light(0, 13) = 6", "light(0, 15) = 2", "light(0, 16) = 0");
        edge("8: all FADES at the first step", "window(0, 14) = 0", "set(0, 7) = 0", "light(0, 15) = 1", "light(0, 16) = 0",
            "set(0, 8) = 7", "light(0, 15) = 0", "set(0, 9) = 8", "light(0, 15) = 0", "light(0, 14) = 9");
        edge("8: a WALL is dark, and ends it", "window(0, 12) = 0", "cell(14, 1) = 0", "light(0, 13) = 8", "light(0, 14) = 0",
            "light(0, 15) = 0", "cell(13, 1) = 0", "light(0, 13) = 0", "light(0, 18) = 8");
        edge("8: a MIRROR has LIGHT, too; the last there is", "window(10, 12) = 0", "cell(15, 3) = 0", "light(0, 15) = 1",
            "light(0, 21) = 0", "light(0, 16) = 0", "cell(14, 3) = 0", "light(0, 14) = 2", "light(0, 20) = 1",
            "light(0, 26) = 0", "light(0, 15) = 0");
        edge("8: the most that it has by any RAY", "window(9, 2) = 0", "cell(5, 3) = 0", "cell(17, 2) = 0", "cell(14, 2) = 0",
            "light(0, 14) = 16", "light(0, 15) = 11", "light(0, 16) = 12", "light(0, 13) = 15", "cell(14, 0) = 2",
            "light(0, 16) = 12", "light(0, 14) = 16", "light(0, 13) = 9");
        edge("8: a RAY that goes round and round ends", "window(39, 8) = 0", "cell(10, 3) = 0", "cell(28, 2) = 0",
            "cell(25, 3) = 0", "cell(7, 2) = 0", "light(0, 8) = 21", "light(0, 9) = 20", "light(0, 10) = 19", "light(0, 16) = 18",
            "light(0, 22) = 17", "light(0, 28) = 16", "light(0, 27) = 15", "light(0, 26) = 18", "light(0, 25) = 17",
            "light(0, 19) = 18", "light(0, 13) = 19", "light(0, 7) = 20", "light(0, 32) = 17", "light(0, 31) = 0",
            "light(0, 11) = 0", "light(0, 6) = 0");
    }

    /** From the middle of each side and from each corner: no row goes over into the next. */
    private static void borders() {
        edge("8: it ends at the border in the north", "window(39, 3) = 0", "light(0, 33) = 16", "light(0, 27) = 17",
            "light(0, 9) = 20", "cell(9, 1) = 0", "light(0, 33) = 0", "light(0, 15) = 0");
        edge("8: it ends at the border in the south", "window(39, 33) = 0", "light(0, 3) = 16", "cell(27, 1) = 0",
            "light(0, 3) = 0", "light(0, 9) = 0");
        edge("8: it ends at the border in the east", "window(39, 17) = 0", "light(0, 16) = 20", "light(0, 12) = 16",
            "light(0, 18) = 0", "light(0, 19) = 0", "cell(16, 1) = 0", "light(0, 12) = 0");
        edge("8: it ends at the border in the west", "window(39, 18) = 0", "light(0, 19) = 20", "light(0, 23) = 16",
            "light(0, 17) = 0", "light(0, 16) = 0", "cell(19, 1) = 0", "light(0, 23) = 0");
        edge("8: CELL 0 is a corner", "window(39, 0) = 0", "light(0, 1) = 20", "light(0, 5) = 16", "light(0, 6) = 20",
            "light(0, 30) = 16", "light(0, 7) = 0", "light(0, 11) = 0", "light(0, 35) = 0");
        edge("8: CELL 5 is a corner", "window(39, 5) = 0", "light(0, 4) = 20", "light(0, 0) = 16", "light(0, 11) = 20",
            "light(0, 35) = 16", "light(0, 6) = 0", "light(0, 30) = 0");
        edge("8: CELL 30 is a corner", "window(39, 30) = 0", "light(0, 31) = 20", "light(0, 35) = 16", "light(0, 24) = 20",
            "light(0, 0) = 16", "light(0, 29) = 0", "light(0, 5) = 0");
        edge("8: CELL 35 is a corner", "window(39, 35) = 0", "light(0, 34) = 20", "light(0, 30) = 16", "light(0, 29) = 20",
            "light(0, 5) = 16", "light(0, 24) = 0", "light(0, 0) = 0");
        edge("8: a RAY that was turned ends at the border, too", "window(39, 7) = 0", "cell(1, 2) = 0", "cell(6, 3) = 0",
            "cell(31, 3) = 0", "light(0, 5) = 16", "light(0, 6) = 20", "light(0, 0) = 19", "light(0, 35) = 13",
            "light(0, 30) = 0", "light(0, 12) = 0", "light(0, 31) = 17", "light(0, 11) = 17");
    }

    /** Each way that each MIRROR turns: the CELL of the mirror, what it is, the CELL that has LIGHT then, those that haven't. */
    private static void mirrors() {
        int[][] turns = {{8, 2, 9, 7, 2}, {15, 2, 9, 21, 16}, {20, 2, 19, 21, 26}, {13, 2, 19, 7, 12},
            {8, 3, 7, 9, 2}, {13, 3, 7, 19, 12}, {20, 3, 21, 19, 26}, {15, 3, 21, 9, 16}};
        for (int[] t : turns) {
            edge("8: a MIRROR turns north and east, south and west (2), north and west, south and east (3)", "window(0, 14)",
                "cell(" + t[0] + ", " + t[1] + ") = 0", "light(0, " + t[0] + ") = 8", "light(0, " + t[2] + ") = 7",
                "light(0, " + t[3] + ") = 0", "light(0, " + t[4] + ") = 0", "cell(" + t[0] + ", 0) = " + t[1],
                "light(0, " + t[2] + ") = 0", "light(0, " + t[4] + ") = 7");
        }
    }

    private static void person() {
        edge("9: one sits in a CELL, 0 to 35", in(VILLAGE, "person(-1, 5) = BEYOND", "person(36, 5) = BEYOND",
            "person(MIN, 5) = BEYOND", "person(MAX, 5) = BEYOND", "person(0, 5) = 3", "person(35, 5) = 4",
            "ofPerson(3, 0) = 0", "ofPerson(4, 0) = 35"));
        edge("9: a NEED is 1 to 20", in(VILLAGE, "person(5, 0) = BEYOND", "person(5, 21) = BEYOND", "person(5, MIN) = BEYOND",
            "person(5, MAX) = BEYOND", "person(5, -1) = BEYOND", "person(5, 1) = 3", "person(5, 20) = 4",
            "ofPerson(3, 1) = 1", "ofPerson(4, 1) = 20", "count(2) = 5"));
        edge("9: EGGS are 20, READ is 0 at first", "person(35, 20) = 0", "ofPerson(0, 2) = 20", "ofPerson(0, 3) = 0");
        edge("9: several may sit in a CELL, also in that of a WALL", "cell(4, 1) = 0", "person(4, 1) = 0", "person(4, 1) = 1",
            "window(0, 4) = 0", "met(0) = 3", "window(0, 3) = 1", "met(1) = 0");
    }

    private static void peopleAreTen() {
        edge("9: PEOPLE are 10 at most", "person(0, 1) x9 = 8", "count(2) = 9", "person(0, 1) = 9", "count(2) = 10",
            "person(0, 1) = FULL", "count(2) = 10", "count(5) = 200");
        edge("9: BEYOND is asked ahead of FULL", in(HOUSE, "person(0, 1) = FULL", "person(36, 1) = BEYOND",
            "person(-1, 1) = BEYOND", "person(0, 0) = BEYOND", "person(0, 21) = BEYOND", "ofPerson(9, 0) = 34",
            "ofPerson(10, 0) = BEYOND"));
    }

    private static void ofPerson() {
        edge("10: one of PEOPLE that there are", in(VILLAGE, "ofPerson(0, 0) = 16", "ofPerson(2, 0) = 0",
            "ofPerson(3, 0) = BEYOND", "ofPerson(-1, 0) = BEYOND", "ofPerson(MIN, 0) = BEYOND", "ofPerson(MAX, 0) = BEYOND"));
        edge("10: what is 0 to 4", in(VILLAGE, "ofPerson(1, 0) = 21", "ofPerson(1, 1) = 3", "ofPerson(1, 4) = 5",
            "ofPerson(1, 3) = 2", "ofPerson(1, 5) = BEYOND", "ofPerson(1, -1) = BEYOND", "ofPerson(1, MIN) = BEYOND",
            "ofPerson(1, MAX) = BEYOND"));
    }

    private static void change() {
        edge("11: one of PEOPLE that there are", in(VILLAGE, "change(3, 0, 1) = BEYOND", "change(-1, 0, 1) = BEYOND",
            "change(MIN, 0, 1) = BEYOND", "change(MAX, 0, 1) = BEYOND", "change(2, 0, 1) = 0", "change(0, 0, 1) = 16"));
        edge("11: another what", in(VILLAGE, "change(0, 3, 1) = BEYOND", "change(0, 4, 1) = BEYOND", "change(0, -1, 1) = BEYOND",
            "change(0, MIN, 1) = BEYOND", "change(0, MAX, 1) = BEYOND"));
        edge("11: a CELL is 0 to 35", in(VILLAGE, "change(0, 0, -1) = BEYOND", "change(0, 0, 36) = BEYOND",
            "change(0, 0, MIN) = BEYOND", "change(0, 0, MAX) = BEYOND", "change(0, 0, 35) = 16", "change(0, 0, 0) = 35",
            "ofPerson(0, 0) = 0"));
        edge("11: a NEED is 1 to 20", in(VILLAGE, "change(0, 1, 0) = BEYOND", "change(0, 1, 21) = BEYOND",
            "change(0, 1, MIN) = BEYOND", "change(0, 1, MAX) = BEYOND", "change(0, 1, 20) = 8", "change(0, 1, 1) = 20",
            "ofPerson(0, 1) = 1"));
        edge("11: EGGS are 0 to 9999", "person(0, 1) = 0", "person(0, 1) = 1", "change(1, 2, -1) = BEYOND",
            "change(1, 2, 10000) = BEYOND", "change(1, 2, MIN) = BEYOND", "change(1, 2, MAX) = BEYOND",
            "change(1, 2, 9999) = 20", "change(1, 2, 0) = 9999", "ofPerson(1, 2) = 0", "ofPerson(0, 2) = 20");
    }

    private static void isMet() {
        edge("12: a WINDOW is one of those that there are", in(VILLAGE, "met(3) = BEYOND", "met(-1) = BEYOND",
            "met(MIN) = BEYOND", "met(MAX) = BEYOND", "met(2) = 4", "met(0) = 0"));
        edge("12: LIGHT is WANTS or more", "window(0, 14) = 0", "person(14, 9) = 0", "person(14, 10) = 1", "person(15, 8) = 2",
            "person(15, 9) = 3", "person(14, 8) = 4", "met(0) = 21");
        edge("12: none, one, all ten", "window(0, 14) = 0", "met(0) = 0", "person(0, 1) x10 = 9", "met(0) = 0",
            "change(9, 0, 14) = 0", "met(0) = 512", "change(0, 0, 14) = 0", "met(0) = 513", "change(1, 0, 14) = 0",
            "change(2, 0, 14) = 0", "change(3, 0, 14) = 0", "change(4, 0, 14) = 0", "change(5, 0, 14) = 0",
            "change(6, 0, 14) = 0", "change(7, 0, 14) = 0", "change(8, 0, 14) = 0", "met(0) = 1023");
        edge("12: the greatest NEED, the most LIGHT", "window(37, 14) = 0", "person(14, 20) = 0", "met(0) = 0",
            "become(0, 38) = 3", "met(0) = 1", "become(0, 39) = 3", "met(0) = 1");
        edge("12: who sits in the dark is never MET, WANTS being 1 at least", "window(60, 14) = 0", "person(14, 1) = 0",
            "person(0, 1) = 1", "tape 0", "text(1) = 1", "ofPerson(0, 4) = 1", "met(0) = 0", "nights(1) = 0", "met(0) = 1");
    }

    private static void turn() {
        edge("13: a WINDOW is one of those that there are", in(VILLAGE, "turn(3) = BEYOND", "turn(-1) = BEYOND",
            "turn(MIN) = BEYOND", "turn(MAX) = BEYOND", "turn(2) = 5", "turn(0) = 6", "count(3) = 6"));
        edge("13: TURNS are 12 at most", "window(0, 0) = 0", "window(0, 1) = 1", "turn(0) x11 = 11", "count(3) = 11",
            "turn(1) = 12", "turn(1) = FULL", "turn(0) = FULL", "count(3) = 12", "nights(11) = 0", "lit() = 1",
            "nights(1) = 0", "lit() = 0");
        edge("13: BEYOND is asked ahead of FULL", in(HOUSE, "turn(0) = FULL", "turn(6) = BEYOND", "turn(-1) = BEYOND"));
        edge("14: clear() of none, of one, of all; it can be filled again", "clear() = 0", "window(0, 0) = 0", "clear() = 0",
            "turn(0) = 1", "clear() = 1", "clear() = 0", "turn(0) x12 = 12", "clear() = 12", "count(3) = 0", "lit() = NONE",
            "turn(0) x12 = 12", "turn(0) = FULL", "lit() = 0");
    }

    private static void lit() {
        edge("15: none, if TURNS are empty", "lit() = NONE", "window(0, 0) = 0", "lit() = NONE", "turn(0) = 1", "lit() = 0",
            "clear() = 1", "lit() = NONE", "told(2) = 3");
        edge("15: none, if TURNS are empty, though there is all the rest", in(VILLAGE, "lit() = 0", "clear() = 4", "lit() = NONE"));
        edge("15: at the place of NIGHT's rest by the length: one, two, three", "window(0, 0) = 0", "window(0, 1) = 1",
            "window(0, 2) = 2", "turn(2) = 1", "lit() = 2", "nights(1) = 0", "lit() = 2", "turn(0) = 2", "lit() = 0",
            "nights(1) = 0", "lit() = 2", "turn(1) = 3", "lit() = 1", "nights(1) = 0", "lit() = 2", "nights(1) = 0",
            "lit() = 0", "nights(1) = 0", "lit() = 1");
        String[] nights = {"0", "1", "2", "3", "4", "5", "5", "3", "1", "0", "2", "4"};
        String[] lines = new String[2 * nights.length + 1];
        for (int i = 0; i < nights.length; i++) {
            lines[2 * i] = "lit() = " + nights[i];
            lines[2 * i + 1] = "nights(1)";
        }
        lines[2 * nights.length] = "lit() = 0";
        edge("15: at the place of NIGHT's rest by the length: twelve, and round", in(FULL, lines));
    }
}
