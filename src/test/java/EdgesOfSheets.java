/** Each boundary that the document names in term 4, of the voices in term 3, and in promises 28 to 41. */
public final class EdgesOfSheets {
    private static final String[] VILLAGE = EdgesOfVillage.VILLAGE;
    private static final String[] FULL = EdgesOfVillage.FULL;
    private static final String[] READER = {"window(0, 0) = 0", "person(0, 1) = 0", "turn(0) = 1"};

    private EdgesOfSheets() {
    }

    public static void main(String[] args) {
        seed();
        voice();
        voicesGoRound();
        trace();
        sheet();
        put();
        lowestBits();
        move();
        moveStandsThere();
        moveOverItself();
        cells();
        judge();
        image();
        imageOfNothing();
        imageOfAll();
        notInTheImage();
        tell();
        check();
        count();
        told();
        Due.finish("EdgesOfSheets");
    }

    private static void edge(String sentence, String... lines) {
        Edge.edge(sentence, lines);
    }

    private static String[] in(String[] scene, String... lines) {
        return Edge.in(scene, lines);
    }

    private static void seed() {
        edge("28: z is 1 at first, and may be any number", "seed(MIN) = 1", "count(10) = MIN", "seed(MAX) = MIN",
            "count(10) = MAX", "seed(0) = MAX", "count(10) = 0", "seed(-1) = 0", "seed(1) = -1", "count(10) = 1");
        edge("28: z like an ERROR is none", "seed(-1000000001) = 1", "count(10) = -1000000001", "seed(-1000000005) = -1000000001",
            "seed(0) = -1000000005", "told(1) = 0", "told(5) = 0");
    }

    private static void voice() {
        edge("29: a WINDOW is one of those that there are", in(VILLAGE, "voice(3, 0, 1) = BEYOND", "voice(-1, 0, 1) = BEYOND",
            "voice(MIN, 0, 1) = BEYOND", "voice(MAX, 0, 1) = BEYOND", "count(9) = 9", "voice(2, 0, 1) = 3", "voice(0, 0, 1) = 1"));
        edge("29: an act is 0 to 3", in(VILLAGE, "voice(0, -1, 1) = BEYOND", "voice(0, 4, 1) = BEYOND", "voice(0, MIN, 1) = BEYOND",
            "voice(0, MAX, 1) = BEYOND", "count(9) = 9", "voice(0, 0, 1) = 1", "trace(0) = 10", "voice(0, 1, 1) = 2",
            "trace(0) = 11", "voice(0, 2, 1) = -2", "trace(0) = 12", "voice(0, 3, 1) = -4", "trace(0) = 13"));
        edge("29: an answer like an ERROR is none", "window(0, 0) = 0", "voice(0, 0, -1000000001) = -1000000001",
            "voice(0, 0, -1000000005) = -1000000005", "told(1) = 0", "told(5) = 0");
        edge("29: n is the number of the WINDOW, 0 to 5; m is 0 to 9", in(FULL, "become(5, 9) = 5", "voice(5, 0, 100) = 105",
            "voice(5, 2, 100) = 91", "become(5, 0) = 0", "voice(5, 2, 100) = 100", "become(0, 69) = 0", "voice(0, 2, 100) = -91",
            "become(5, 69) = 0", "voice(5, 2, 100) = -96"));
    }

    private static void voicesGoRound() {
        edge("29: LAMP goes round", "window(0, 0) x6 = 5", "voice(0, 0, MAX) = MAX", "voice(5, 0, MAX) = -2147483644",
            "voice(0, 0, MIN) = MIN", "voice(0, 1, 1073741823) = 2147483646", "voice(0, 1, 1073741824) = MIN",
            "voice(0, 1, MIN) = 0", "voice(0, 1, MAX) = -2", "voice(0, 2, MIN) = MIN", "become(0, 9) = 0",
            "voice(0, 2, MIN) = 2147483639", "become(0, 0) = 0", "voice(0, 3, MAX) = -2147483647", "voice(0, 3, MIN) = MIN");
        edge("29: WEAK goes round", "window(10, 0) = 0", "voice(0, 1, 1073741824) = MAX", "voice(0, 1, MAX) = -3",
            "become(0, 19) = 1", "voice(0, 1, 1073741823) = -2147483642", "voice(0, 1, 1073741820) = MIN",
            "voice(0, 1, 1073741819) = 2147483646");
        edge("29: COLOURED goes round", "window(20, 0) = 0", "voice(0, 0, 715827882) = 2147483646",
            "voice(0, 0, 715827883) = -2147483647", "voice(0, 0, MAX) = 2147483645", "voice(0, 0, MIN) = MIN",
            "voice(0, 1, MAX) = -6");
        edge("29: DOUBLE goes round", "window(30, 0) = 0", "voice(0, 2, MIN) = MIN", "voice(0, 2, MAX) = -2147483647",
            "become(0, 31) = 3", "voice(0, 2, MIN) = -2147483647");
        edge("29: BORROWED goes round", "window(40, 0) = 0", "voice(0, 1, MAX) = -1", "voice(0, 1, 1073741823) = MAX",
            "voice(0, 1, 1073741822) = 2147483645");
        edge("29: STAINED goes round", "window(50, 0) = 0", "voice(0, 3, MAX) = MAX", "voice(0, 3, 0) = -6");
        edge("29: FEIGNED goes round", "window(60, 0) = 0", "voice(0, 2, MIN) = MIN", "voice(0, 3, MAX) = MAX");
    }

    private static void trace() {
        edge("30: NONE: there is none such: ahead of any voice()", "trace(0) = NONE", "window(0, 0) = 0", "trace(0) = NONE",
            "trace(-1) = NONE", "trace(MIN) = NONE", "trace(MAX) = NONE", "count(9) = 0");
        edge("30: NONE: there is none such: one BODY", "window(0, 0) = 0", "voice(0, 0, 1) = 1", "count(9) = 1", "trace(0) = 10",
            "trace(1) = NONE", "trace(-1) = NONE", "trace(MIN) = NONE", "trace(MAX) = NONE");
        edge("30: NONE: there is none such: nine BODIES, the most; then fewer", "window(69, 0) = 0", "voice(0, 3, 1) = -8",
            "count(9) = 9", "trace(0) = 71", "trace(8) = 12", "trace(9) = NONE", "become(0, 59) = 6", "voice(0, 3, 1) = -8",
            "count(9) = 8", "trace(0) = 60", "trace(7) = 10", "trace(8) = NONE", "voice(0, 2, 1) = -8", "count(9) = 1",
            "trace(0) = 12", "trace(1) = NONE", "trace(39) = NONE", "trace(40) = NONE");
        edge("30: NONE: there is none such, where there is all the rest", in(VILLAGE, "trace(8) = 12", "trace(9) = NONE",
            "trace(-1) = NONE", "trace(40) = NONE"));
        edge("30: a refused voice() leaves it", "window(0, 0) = 0", "voice(0, 1, 1) = 2", "voice(0, 4, 1) = BEYOND",
            "voice(1, 0, 1) = BEYOND", "count(9) = 2", "trace(0) = 11", "trace(1) = 10");
    }

    private static void sheet() {
        edge("31: a SHEET is 0 to 3", in(VILLAGE, "sheet(-1, 8, 3) = BEYOND", "sheet(4, 8, 3) = BEYOND", "sheet(MIN, 8, 3) = BEYOND",
            "sheet(MAX, 8, 3) = BEYOND", "sheet(4, 0, 3) = BEYOND", "sheet(0, 8, 3) = 1", "sheet(3, 8, 3) = 1", "cells(3) = 3"));
        String[] bits = {"-1", "1", "4", "7", "9", "12", "15", "17", "24", "31", "33", "64", "-8", "-16", "-32", "MIN", "MAX"};
        String[] lines = new String[bits.length + 4];
        for (int i = 0; i < bits.length; i++) {
            lines[i] = "sheet(0, " + bits[i] + ", 3) = BEYOND";
        }
        lines[bits.length] = "sheet(0, 16, 3) = 1";
        lines[bits.length + 1] = "sheet(0, 32, 3) = 1";
        lines[bits.length + 2] = "sheet(0, 8, 3) = 1";
        lines[bits.length + 3] = "sheet(0, 0, 3) = 1";
        edge("31: bits are 8, 16, 32 or 0", in(VILLAGE, lines));
        edge("31: a SHEET has 0 to 40 numbers", in(VILLAGE, "sheet(0, 8, 41) = BEYOND", "sheet(0, 16, 41) = BEYOND",
            "sheet(0, 32, MAX) = BEYOND", "sheet(0, 8, 0) = 1", "cells(0) = 0", "put(0, 0, 0) = BEYOND", "sheet(0, 8, 40) = 1",
            "put(0, 39, 1) = 1", "put(0, 40, 1) = BEYOND", "sheet(0, 16, 1) = 1", "put(0, 0, 3) = 1", "put(0, 1, 3) = BEYOND",
            "cells(0) = 1"));
        edge("31: STATE: n is below 0; ahead of BEYOND of n", in(VILLAGE, "sheet(0, 8, -1) = STATE", "sheet(1, 16, -1) = STATE",
            "sheet(3, 32, -1) = STATE", "sheet(0, 8, MIN) = STATE", "sheet(0, 8, -41) = STATE"));
        edge("31: BEYOND of a SHEET or bits is asked ahead of STATE", in(VILLAGE, "sheet(4, 8, -1) = BEYOND",
            "sheet(-1, 8, -1) = BEYOND", "sheet(0, 7, -1) = BEYOND", "sheet(0, -8, -1) = BEYOND"));
        edge("31: 0: it is missing, n doesn't matter", "sheet(0, 0, -1) = 1", "cells(0) = NONE", "sheet(0, 8, 2) = 1",
            "cells(0) = 2", "sheet(0, 0, -1) = 1", "cells(0) = NONE", "sheet(0, 8, 2) = 1", "sheet(0, 0, 41) = 1",
            "cells(0) = NONE", "sheet(0, 8, 2) = 1", "sheet(0, 0, MIN) = 1", "cells(0) = NONE", "sheet(0, 8, 2) = 1",
            "sheet(0, 0, MAX) = 1", "cells(0) = NONE", "put(0, 0, 0) = NONE");
        edge("31: all 0, also behind one that was full", "sheet(0, 32, 40) = 1", "put(0, 0, -1) = 1", "put(0, 39, -1) = 1",
            "put(0, 20, 2) = 1", "sheet(0, 32, 40) = 1", "cells(0) = 36", "cell(20, 0) = 0", "move(0, 4, 0, 0, 36) = 36",
            "cells(0) = 36", "cell(35, 0) = 0", "sheet(0, 0, 0) = 1", "sheet(0, 8, 3) = 1", "cells(0) = 3");
        edge("31: one SHEET is not another", "sheet(0, 8, 2) = 1", "sheet(1, 8, 3) = 1", "sheet(2, 8, 4) = 1", "sheet(3, 8, 5) = 1",
            "put(1, 0, 1) = 1", "cells(0) = 2", "cell(0, 0) = 0", "cells(2) = 4", "cells(3) = 5", "cell(0, 0) = 0", "cells(1) = 3",
            "cell(0, 0) = 1", "sheet(1, 0, 0) = 1", "cells(0) = 2", "cells(2) = 4", "cells(1) = NONE");
    }

    private static void put() {
        edge("32: a SHEET is 0 to 3", in(VILLAGE, "put(-1, 0, 1) = BEYOND", "put(4, 0, 1) = BEYOND", "put(MIN, 0, 1) = BEYOND",
            "put(MAX, 0, 1) = BEYOND", "put(0, 0, 2) = 1", "put(3, 0, 1) = NONE"));
        edge("32: a number is one of those that there are", in(VILLAGE, "put(1, -1, 1) = BEYOND", "put(1, 5, 1) = BEYOND",
            "put(1, MIN, 1) = BEYOND", "put(1, MAX, 1) = BEYOND", "put(1, 0, 1) = 1", "put(1, 4, 1) = 1", "put(0, 40, 1) = BEYOND",
            "put(0, 39, 1) = 1", "put(2, 1, 1) = BEYOND", "put(2, 0, 1) = 1"));
        edge("32: a SHEET of no numbers", "sheet(0, 8, 0) = 1", "put(0, 0, 1) = BEYOND", "put(0, -1, 1) = BEYOND");
        edge("32: BEYOND of a SHEET ahead of NONE, that ahead of BEYOND of a number", "put(3, 0, 1) = NONE", "put(3, -1, 1) = NONE",
            "put(3, 40, 1) = NONE", "put(4, 0, 1) = BEYOND", "sheet(3, 8, 1) = 1", "put(3, -1, 1) = BEYOND", "put(3, 0, 1) = 1");
    }

    private static void lowestBits() {
        String[] cells = {"put(0, 0, 259)", "put(0, 1, 256)", "put(0, 2, -255)", "put(0, 3, MIN)", "put(0, 4, 260)"};
        edge("32: the lowest 8 bits", in(new String[] {"sheet(0, 8, 5) = 1"}, in(cells, "cells(0) = 4", "cell(0, 0) = 3",
            "cell(1, 0) = 0", "cell(2, 0) = 1", "cell(3, 0) = 0", "put(0, 0, 255) = 1", "cells(0) = 0", "put(0, 0, -1) = 1",
            "cells(0) = 0", "put(0, 0, 128) = 1", "cells(0) = 0", "put(0, 0, 65536) = 1", "cells(0) = 4")));
        edge("32: the lowest 16 bits", "sheet(0, 16, 5) = 1", "put(0, 0, 65539) = 1", "put(0, 1, 65536) = 1", "put(0, 2, -65535) = 1",
            "put(0, 3, MIN) = 1", "put(0, 4, 65540) = 1", "cells(0) = 4", "cell(0, 0) = 3", "cell(1, 0) = 0", "cell(2, 0) = 1",
            "cell(3, 0) = 0", "put(0, 0, 256) = 1", "cells(0) = 0", "put(0, 0, 65535) = 1", "cells(0) = 0", "put(0, 0, 32768) = 1",
            "cells(0) = 0", "put(0, 0, -1) = 1", "cells(0) = 0", "put(0, 0, 131072) = 1", "cells(0) = 4");
        edge("32: all 32 bits", "sheet(0, 32, 5) = 1", "put(0, 0, 3) = 1", "put(0, 1, 65536) = 1", "cells(0) = 1",
            "put(0, 1, 256) = 1", "cells(0) = 1", "put(0, 1, MIN) = 1", "cells(0) = 1", "put(0, 1, MAX) = 1", "cells(0) = 1",
            "put(0, 1, -1) = 1", "cells(0) = 1", "put(0, 1, 0x80000003) = 1", "cells(0) = 1", "put(0, 1, 3) = 1", "cells(0) = 5");
    }

    private static void move() {
        edge("33: a SHEET is 0 to 3", in(VILLAGE, "move(-1, 0, 0, 0, 1) = BEYOND", "move(4, 0, 0, 0, 1) = BEYOND",
            "move(MIN, 0, 0, 0, 1) = BEYOND", "move(MAX, 0, 0, 0, 1) = BEYOND", "move(0, 0, -1, 0, 1) = BEYOND",
            "move(0, 0, 4, 0, 1) = BEYOND", "move(0, 0, MIN, 0, 1) = BEYOND", "move(0, 0, MAX, 0, 1) = BEYOND",
            "move(0, 0, 0, 1, 1) = 1", "sheet(3, 8, 1) = 1", "move(3, 0, 0, 0, 1) = 1", "move(0, 5, 3, 0, 1) = 1"));
        edge("33: NONE: one is missing", in(VILLAGE, "move(3, 0, 0, 0, 1) = NONE", "move(0, 0, 3, 0, 1) = NONE",
            "move(3, 0, 3, 0, 0) = NONE"));
        edge("33: KIND: they are of unlike bits", in(VILLAGE, "move(0, 0, 1, 0, 1) = KIND", "move(1, 0, 0, 0, 1) = KIND",
            "move(0, 0, 2, 0, 1) = KIND", "move(1, 0, 2, 0, 1) = KIND", "move(2, 0, 1, 0, 0) = KIND", "move(2, 0, 2, 0, 1) = 1"));
        edge("33: BEYOND of a SHEET, NONE, KIND, BEYOND of the numbers: in that order", in(VILLAGE, "move(3, 0, 4, 0, 1) = BEYOND",
            "move(4, 0, 3, 0, 1) = BEYOND", "move(-1, 0, 3, 0, 1) = BEYOND", "move(0, -1, 3, 0, 1) = NONE", "move(3, 0, 0, 99, 1) = NONE",
            "move(3, 0, 1, 0, -1) = NONE", "move(0, -1, 1, 0, 1) = KIND", "move(0, 0, 1, 5, 1) = KIND", "move(0, 0, 1, 0, -1) = KIND",
            "move(0, 0, 0, 0, -1) = BEYOND"));
    }

    private static void moveStandsThere() {
        String[] two = {"sheet(0, 8, 6) = 1", "sheet(1, 8, 4) = 1", "put(0, 0, 1)", "put(0, 1, 2)", "put(0, 2, 3)", "put(0, 3, 1)",
            "put(0, 4, 2)", "put(0, 5, 3)"};
        edge("33: n, i or j is below 0", in(two, "move(0, 0, 1, 0, -1) = BEYOND", "move(0, -1, 1, 0, 1) = BEYOND",
            "move(0, 0, 1, -1, 1) = BEYOND", "move(0, -1, 1, -1, 0) = BEYOND", "move(0, MIN, 1, 0, 1) = BEYOND",
            "move(0, 0, 1, MIN, 1) = BEYOND", "move(0, 0, 1, 0, MIN) = BEYOND", "move(0, 0, 1, 0, 0) = 0"));
        edge("33: they don't stand there: from", in(two, "move(0, 6, 1, 0, 1) = BEYOND", "move(0, 5, 1, 0, 2) = BEYOND",
            "move(0, 3, 1, 0, 4) = BEYOND", "move(0, MAX, 1, 0, 1) = BEYOND", "move(0, MAX, 1, 0, MAX) = BEYOND",
            "move(0, 1, 1, 0, MAX) = BEYOND", "move(0, 5, 1, 0, 1) = 1", "move(0, 2, 1, 0, 4) = 4", "cells(1) = 4", "cell(0, 0) = 3",
            "cell(3, 0) = 3"));
        edge("33: they don't stand there: to", in(two, "move(0, 0, 1, 4, 1) = BEYOND", "move(0, 0, 1, 3, 2) = BEYOND",
            "move(0, 0, 1, 0, 5) = BEYOND", "move(0, 0, 1, MAX, 1) = BEYOND", "move(1, 0, 1, MAX, MAX) = BEYOND",
            "move(0, 0, 1, 3, 1) = 1", "move(0, 0, 1, 0, 4) = 4", "cells(1) = 4", "cell(0, 0) = 1", "cell(3, 0) = 1"));
        edge("33: none of them, at the ends and one beyond", in(two, "move(0, 6, 1, 4, 0) = 0", "move(0, 7, 1, 4, 0) = BEYOND",
            "move(0, 6, 1, 5, 0) = BEYOND", "sheet(1, 8, 0) = 1", "move(1, 0, 1, 0, 0) = 0", "move(1, 0, 1, 0, 1) = BEYOND",
            "move(0, 0, 1, 0, 1) = BEYOND", "move(1, 0, 0, 0, 1) = BEYOND", "move(1, 0, 0, 6, 0) = 0"));
        edge("33: all forty", "sheet(2, 32, 40) = 1", "sheet(3, 32, 40) = 1", "put(2, 0, 3) = 1", "put(2, 39, 2) = 1",
            "move(2, 0, 3, 0, 41) = BEYOND", "move(2, 0, 3, 1, 40) = BEYOND", "move(2, 1, 3, 0, 40) = BEYOND",
            "move(2, 0, 3, 0, 40) = 40", "move(3, 39, 3, 1, 1) = 1", "cells(3) = 36", "cell(0, 0) = 3", "cell(1, 0) = 2");
    }

    private static void moveOverItself() {
        String[] one = {"sheet(0, 8, 6) = 1", "put(0, 0, 1)", "put(0, 1, 2)", "put(0, 2, 3)"};
        edge("33: to the same, as they all were: up by one", in(one, "move(0, 0, 0, 1, 5) = 5", "cells(0) = 6", "cell(0, 0) = 1",
            "cell(1, 0) = 1", "cell(2, 0) = 2", "cell(3, 0) = 3", "cell(4, 0) = 0", "cell(5, 0) = 0"));
        edge("33: to the same, as they all were: down by one", in(one, "put(0, 5, 3) = 1", "move(0, 1, 0, 0, 5) = 5", "cells(0) = 6",
            "cell(0, 0) = 2", "cell(1, 0) = 3", "cell(2, 0) = 0", "cell(3, 0) = 0", "cell(4, 0) = 3", "cell(5, 0) = 3"));
        edge("33: to the same place", in(one, "move(0, 0, 0, 0, 6) = 6", "cells(0) = 6", "cell(0, 0) = 1", "cell(1, 0) = 2",
            "cell(2, 0) = 3", "cell(3, 0) = 0"));
    }

    private static void cells() {
        edge("34: a SHEET is 0 to 3; NONE: it is missing", in(VILLAGE, "cells(-1) = BEYOND", "cells(4) = BEYOND",
            "cells(MIN) = BEYOND", "cells(MAX) = BEYOND", "cells(3) = NONE", "cells(2) = 1", "cells(1) = 5", "cells(0) = 36"));
        edge("34: up to the first number that isn't 0 to 3: the first, one in the middle, none", "sheet(0, 32, 3) = 1",
            "put(0, 0, 4) = 1", "put(0, 1, 3) = 1", "put(0, 2, 1) = 1", "cells(0) = 0", "cell(1, 2) = 0", "put(0, 0, -1) = 1",
            "cells(0) = 0", "put(0, 0, 3) = 1", "put(0, 1, 4) = 1", "cells(0) = 1", "cell(0, 0) = 3", "cell(1, 0) = 2",
            "cell(2, 0) = 0", "put(0, 1, 2) = 1", "cells(0) = 3", "cell(0, 0) = 3", "cell(1, 0) = 2", "cell(2, 0) = 1",
            "put(0, 2, 4) = 1", "cells(0) = 2", "put(0, 2, MIN) = 1", "cells(0) = 2");
        edge("34: of no numbers: none come", "cell(0, 2) = 0", "sheet(0, 8, 0) = 1", "cells(0) = 0", "cell(0, 2) = 2");
        edge("34: 35, 36, 37 numbers", "sheet(0, 8, 35) = 1", "cell(35, 3) = 0", "cells(0) = 35", "cell(35, 3) = 3",
            "sheet(0, 8, 36) = 1", "put(0, 35, 2) = 1", "cells(0) = 36", "cell(35, 3) = 2", "sheet(0, 8, 37) = 1",
            "put(0, 36, 1) = 1", "put(0, 35, 1) = 1", "cells(0) = 36", "cell(35, 0) = 1");
        edge("34: the 36th isn't 0 to 3, the 37th isn't", "sheet(0, 8, 40) = 1", "put(0, 35, 4) = 1", "cells(0) = 35",
            "put(0, 35, 3) = 1", "put(0, 36, 4) = 1", "cells(0) = 36", "cell(35, 0) = 3");
    }

    private static void judge() {
        edge("35: a SHEET is 0 to 3, a WINDOW one that there is; NONE: it is missing", in(VILLAGE, "judge(-1, 0) = BEYOND",
            "judge(4, 0) = BEYOND", "judge(MIN, 0) = BEYOND", "judge(MAX, 0) = BEYOND", "judge(0, -1) = BEYOND",
            "judge(0, 3) = BEYOND", "judge(0, MIN) = BEYOND", "judge(0, MAX) = BEYOND", "judge(3, 0) = NONE", "judge(0, 0) = 0",
            "judge(1, 2) = 0", "judge(1, 0) = 2", "judge(2, 0) = 0"));
        edge("35: BEYOND is asked ahead of NONE", in(VILLAGE, "judge(3, 3) = BEYOND", "judge(3, -1) = BEYOND", "judge(4, 3) = BEYOND"));
        edge("35: of no numbers, of one that is so, of one that isn't", "window(0, 0) = 0", "sheet(0, 8, 0) = 1", "judge(0, 0) = 0",
            "sheet(0, 8, 1) = 1", "judge(0, 0) = 0", "put(0, 0, 9) = 1", "judge(0, 0) = 1", "put(0, 0, 8) = 1", "judge(0, 0) = 0",
            "put(0, 0, 10) = 1", "judge(0, 0) = 0");
        String[] dark = {"window(60, 0) = 0", "sheet(0, 32, 40) = 1"};
        edge("35: 36 at most; the last, the one behind it", in(dark, "judge(0, 0) = 36", "put(0, 36, 1) = 1", "judge(0, 0) = 36",
            "put(0, 35, 1) = 1", "judge(0, 0) = 35", "put(0, 0, 1) = 1", "judge(0, 0) = 0", "put(0, 0, -1) = 1", "judge(0, 0) = 0",
            "put(0, 0, 0) = 1", "put(0, 35, 0) = 1", "judge(0, 0) = 36"));
        edge("35: as many as there are: 35, 36, 37", "window(60, 0) = 0", "sheet(0, 8, 35) = 1", "judge(0, 0) = 35",
            "sheet(0, 8, 36) = 1", "judge(0, 0) = 36", "sheet(0, 8, 37) = 1", "judge(0, 0) = 36");
        edge("35: tonight", "window(60, 0) = 0", "sheet(0, 8, 1) = 1", "judge(0, 0) = 1", "nights(1) = 0", "judge(0, 0) = 0",
            "put(0, 0, 12) = 1", "judge(0, 0) = 1", "nights(2) = 0", "judge(0, 0) = 0");
    }

    private static void image() {
        edge("37: NONE: there is none", in(READER, "restore() = NONE", "nights(2) = 2", "restore() = NONE", "count(0) = 2",
            "image() = 1", "restore() = 2"));
        String[] unkept = String.join("\n", VILLAGE).replace("image()\n", "").split("\n");
        edge("37: NONE: there is none, where there is all the rest", in(unkept, "count(0) = 7", "restore() = NONE", "image() = 1",
            "restore() = 7"));
        edge("36: how often that was done, also behind restore()", "image() = 1", "restore() = 0", "image() = 2", "image() = 3",
            "restore() = 0", "restore() = 0", "image() = 4");
        edge("36: in place of one ahead; 37: which stays", in(READER, "image() = 1", "nights(5) = 5", "image() = 2", "nights(4) = 9",
            "restore() = 5", "count(4) = 5", "nights(1) = 6", "restore() = 5", "count(4) = 5", "cell(3, 1) = 0", "set(0, 5) = 0",
            "restore() = 5", "cell(3, 0) = 0", "count(6) = 0"));
        edge("37: NIGHT 0", "image() = 1", "nights(100) x99 = 0", "nights(99) = 0", "nights(1) = STATE", "restore() = 0",
            "nights(1) = 0", "restore() = 0");
        edge("37: NIGHT 9999", "nights(100) x99 = 0", "nights(99) = 0", "image() = 1", "nights(1) = STATE", "restore() = 9999",
            "nights(1) = STATE", "count(0) = 9999");
    }

    /** Behind an image of nothing, what was used is as new. */
    private static void imageOfNothing() {
        String[] filled = Edge.in(FULL, "nights(5)", "set(0, 3)", "set(1, 4)", "cell(0, 1)", "cell(35, 3)", "seed(5)",
            "tape d+2", "text(0)", "tape n+2", "text(1)", "tape 12345678", "tell(1) x20", "restore() = 0");
        String[] lines = Edge.in(new String[] {"image() = 1"}, filled);
        edge("36: all is kept: a new one", in(lines, "count(0) = 0", "count(1) = 0", "count(2) = 0", "count(3) = 0", "count(4) = 0",
            "count(5) = 0", "count(6) = 0", "count(7) = 0", "count(8) = 0", "count(10) = 1", "cell(0, 0) = 0", "cell(35, 0) = 0",
            "set(1, 1) = 1", "law(0, 4, 5, 0, 0) = 9", "law(1, 4, 5, 0, 0) = 4", "ofWindow(0, 0) = BEYOND", "ofPerson(0, 0) = BEYOND",
            "lit() = NONE", "whose(1) = BEYOND"));
        edge("36: all is kept: who comes then is as new", in(lines, "window(0, 9) = 0", "ofWindow(0, 3) = 0", "person(3, 4) = 0",
            "ofPerson(0, 2) = 20", "ofPerson(0, 3) = 0", "turn(0) = 1", "tell(9) = 1", "feed(0x64, 1) = 1", "lit() = 0",
            "check() = 1"));
    }

    /** The first and the last of each row is changed behind the image. */
    private static void imageOfAll() {
        String[] all = Edge.in(FULL, "become(0, 37) = 0", "become(5, 28) = 5", "cell(0, 3) = 0", "cell(35, 2) = 0",
            "tape " + "1+".repeat(24) + "12 = 50", "tell(3)", "tell(1) x19 = 20", "image() = 1", "text(0) = 1", "check()",
            "clear() = 12", "turn(3) = 1", "become(0, 0) = 3", "become(5, 0) = 2", "nights(9)", "change(9, 0, 0) = 34",
            "change(0, 1, 20) = 1", "change(9, 1, 3) = 1", "change(0, 0, 17) = 0", "change(5, 2, 0)", "cell(0, 1) = 3",
            "cell(35, 0) = 2", "tape d = 1", "tell(5) = 1", "set(1, 2) = 1", "set(0, 3) = 0", "seed(8) = 1", "restore() = 0");
        edge("36: all is kept: six, ten, twelve, fifty, twenty", in(all, "count(1) = 6", "count(2) = 10", "count(3) = 12",
            "count(7) = 50", "count(8) = 20", "count(5) = 200", "window(0, 0) = FULL", "person(0, 1) = FULL", "turn(0) = FULL",
            "feed(0x31, 1) = FULL", "tell(0) = FULL", "ofWindow(0, 0) = 3", "ofWindow(0, 1) = 7", "ofWindow(5, 0) = 2",
            "ofWindow(5, 1) = 8", "ofWindow(0, 2) = 0", "ofWindow(5, 2) = 35", "ofWindow(3, 3) = 0", "ofPerson(9, 0) = 34",
            "ofPerson(0, 0) = 0", "ofPerson(0, 1) = 1", "ofPerson(9, 1) = 1", "ofPerson(5, 2) = 20", "ofPerson(9, 3) = 0",
            "ofPerson(0, 3) = 0", "set(1, 1) = 1", "set(0, 0) = 0", "count(10) = 1", "lit() = 0", "cell(0, 0) = 3",
            "cell(35, 0) = 2", "law(0, 5, 5, 0, 0) = 10", "text(0) = 1", "law(0, 5, 5, 0, 0) = 36", "nights(11)", "lit() = 4"));
        edge("36: all is kept: READ, EGGS and what a TEXT gives, of the first and of the last", in(FULL, "tape d+1 = 3",
            "text(0) = 1", "tape 1 = 1", "text(1) = 1", "turn(0) = FULL", "change(9, 0, 0) = 34", "nights(1)", "ofPerson(0, 3) = 1",
            "ofPerson(9, 3) = 1", "ofWindow(0, 3) = 3", "image() = 1", "tape d+2 = 3", "text(0) = 1", "tape 2 = 1", "text(1) = 1",
            "nights(30)", "restore() = 1", "ofPerson(0, 3) = 1", "ofPerson(0, 2) = 19", "ofPerson(9, 3) = 1", "ofPerson(9, 2) = 19",
            "ofWindow(0, 3) = 3", "ofWindow(5, 3) = 0", "count(4) = 3", "law(0, 0, 3, 0, 0) = 4", "law(1, 3, 0, 0, 0) = 1"));
    }

    private static void notInTheImage() {
        edge("36: but SHEETS", "sheet(0, 8, 3) = 1", "put(0, 0, 2) = 1", "image() = 1", "sheet(0, 16, 5) = 1", "put(0, 4, 3) = 1",
            "sheet(3, 8, 40) = 1", "restore() = 0", "cells(0) = 5", "cell(0, 0) = 0", "cell(4, 0) = 3", "cells(3) = 36",
            "image() = 2", "sheet(0, 0, 0) = 1", "restore() = 0", "cells(0) = NONE");
        edge("36: but THE TRACE", "window(50, 0) = 0", "voice(0, 1, 1)", "count(9) = 3", "image() = 1", "voice(0, 2, 1)",
            "count(9) = 1", "restore() = 0", "count(9) = 1", "trace(0) = 12", "voice(0, 3, 1)", "count(9) = 8", "restore() = 0",
            "count(9) = 8", "trace(0) = 60", "trace(7) = 10");
        edge("36: but what told() tells", "cell(36, 0) = BEYOND", "image() = 1", "cell(36, 0) = BEYOND", "lit() = NONE",
            "restore() = 0", "told(1) = 2", "told(2) = 1", "told(3) = 0");
    }

    private static void tell() {
        edge("38: 20 wait at most", in(READER, "tell(1) x19 = 19", "count(8) = 19", "tell(20) = 20", "count(8) = 20",
            "tell(0) = FULL", "tell(1) = FULL", "tell(MIN) = FULL", "count(8) = 20", "told(4) = 3", "check() = 2", "count(8) = 0",
            "tell(1) = 1"));
        edge("38: FULL, where there is all the rest", in(VILLAGE, "tell(6) x18 = 20", "tell(6) = FULL", "check() = 3",
            "tell(6) = 1"));
        edge("38: any number may wait", "tell(MIN) = 1", "tell(MAX) = 2", "tell(-1000000001) = 3", "tell(0) = 4", "check() = 1",
            "tell(0) = 1", "tell(MAX) = 2", "check() = 2", "told(1) = 0");
    }

    private static void check() {
        edge("39: none wait: 0", in(READER, "check() = 0", "tell(1) = 1", "check() = 0", "check() = 0", "count(8) = 0"));
        edge("39: the first isn't so, the last isn't, none isn't", in(READER, "tell(0) = 1", "check() = 1", "tell(2) = 1",
            "check() = 1", "tell(1) = 1", "check() = 0", "tell(1) = 1", "tell(2) = 2", "tell(4) = 3", "check() = 3", "count(8) = 0",
            "count(0) = 0", "count(4) = 0"));
        String[] twenty = new String[20];
        for (int i = 0; i < 20; i++) {
            twenty[i] = "tell(" + (i + 1) + ") = " + (i + 1);
        }
        edge("39: twenty are so", in(READER, in(twenty, "check() = 0", "count(8) = 0", "tell(0) = 1")));
        twenty[19] = "tell(21) = 20";
        edge("39: the twentieth isn't so", in(READER, in(twenty, "check() = 20", "count(8) = 0")));
        twenty[0] = "tell(2) = 1";
        edge("39: the first of two that aren't so", in(READER, in(twenty, "check() = 1", "count(8) = 0")));
        edge("39: none reads: 0 for ever", "tell(0) x20 = 20", "check() = 0", "tell(0) x19 = 19", "tell(1) = 20", "check() = 20");
        edge("39: behind READ that there is", in(READER, "nights(7) = 7", "tell(8) = 1", "tell(9) = 2", "check() = 0", "tell(7) = 1",
            "check() = 1", "count(4) = 7"));
        edge("39: AHEAD beyond NIGHT 9999", "nights(100) x99 = 0", "nights(99) = 0", "window(0, 0) = 0", "person(0, 1) = 0",
            "turn(0) = 1", "tell(1) = 1", "tell(2) = 2", "tell(3) = 3", "check() = 0", "count(0) = 9999", "count(4) = 0");
    }

    private static void count() {
        edge("40: what is 0 to 10", in(VILLAGE, "count(-1) = BEYOND", "count(11) = BEYOND", "count(MIN) = BEYOND",
            "count(MAX) = BEYOND", "count(0) = 7", "count(1) = 3", "count(2) = 3", "count(3) = 4", "count(4) = 4", "count(5) = 60",
            "count(6) = 1", "count(7) = 5", "count(8) = 2", "count(9) = 9", "count(10) = 77"));
        edge("40: the most of each", in(FULL, "change(0, 2, 9999) = 20", "change(9, 2, 9999) = 20", "nights(100) x99", "nights(99)",
            "feed(0x2b312b312b312b31, 8) x6 = 48", "feed(0x3131, 2) = 50", "tell(1) x20 = 20", "set(0, 9) = 0", "seed(MAX) = 1",
            "count(0) = 9999", "count(1) = 6", "count(2) = 10", "count(3) = 12", "count(5) = 20158", "count(6) = 9",
            "count(7) = 50", "count(8) = 20", "count(10) = MAX"));
        edge("40: READ of all, each 9999 at most", "window(0, 0) = 0", "person(0, 1) x10 = 9", "turn(0) = 1", "nights(100) x99 = 99000",
            "nights(99) = 99990", "count(4) = 99990", "count(5) = 200");
        edge("40: EGGS of all PEOPLE and WINDOWS: what one pays another has", in(FULL, "set(1, 9) = 1", "count(5) = 200", "nights(100)",
            "count(5) = 200"));
    }

    private static void told() {
        edge("41: k is 1 to 5; another k is counted, too", "told(0) = BEYOND", "told(1) = 1", "told(6) = BEYOND", "told(1) = 2",
            "told(-1) = BEYOND", "told(MIN) = BEYOND", "told(MAX) = BEYOND", "told(1) = 5", "told(2) = 0", "told(3) = 0",
            "told(4) = 0", "told(5) = 0");
        edge("41: another k, where there is all the rest", in(VILLAGE, "told(0) = BEYOND", "told(6) = BEYOND", "told(-1) = BEYOND",
            "told(1) = 3", "told(5) = 0"));
        edge("41: how many of each", "lit() = NONE", "told(2) = 1", "restore() = NONE", "told(2) = 2", "sheet(0, 8, -1) = STATE",
            "told(3) = 1", "window(0, 0) x6 = 5", "window(0, 0) = FULL", "told(4) = 1", "as(0, 6) = KIND", "told(5) = 1",
            "cell(36, 0) = BEYOND", "told(1) = 1", "told(2) = 2", "told(3) = 1", "told(4) = 1", "told(5) = 1");
    }
}
