/** Each boundary that the document names in term 3 and in promises 19 to 27. */
public final class EdgesOfNights {
    private static final String[] VILLAGE = EdgesOfVillage.VILLAGE;
    private static final String[] FULL = EdgesOfVillage.FULL;
    /** One reads each night, by a window that is always lit. */
    private static final String[] READER = {"window(0, 0) = 0", "person(0, 1) = 0", "turn(0) = 1"};

    /** Whether 20 turns the light east or west, it comes round the wall in 14 to 8. */
    private static final String[] FORK = {"window(0, 26) = 0", "cell(14, 1) = 0", "cell(21, 2) = 0", "cell(9, 3) = 0",
        "cell(19, 3) = 0", "cell(7, 2) = 0"};

    private EdgesOfNights() {
    }

    public static void main(String[] args) {
        nights();
        lastNight();
        rent();
        mostRead();
        mostEggs();
        loose();
        draws();
        then();
        thenEggs();
        beyondTheLastNight();
        order();
        orderTies();
        seat();
        curtain();
        mirrors();
        howManyMirrors();
        whereMirrorsStand();
        whichMirrorsAreFirst();
        whose();
        Due.finish("EdgesOfNights");
    }

    private static void edge(String sentence, String... lines) {
        Edge.edge(sentence, lines);
    }

    private static String[] in(String[] scene, String... lines) {
        return Edge.in(scene, lines);
    }

    private static void nights() {
        edge("19: n is 1 to 100", in(VILLAGE, "nights(0) = BEYOND", "nights(101) = BEYOND", "nights(-1) = BEYOND",
            "nights(MIN) = BEYOND", "nights(MAX) = BEYOND", "count(0) = 7", "nights(1) = 4", "count(0) = 8", "nights(1) = 5",
            "count(0) = 9", "nights(100)", "count(0) = 109"));
        edge("19: READ of all together: of none, of one, of ten", "nights(100) = 0", "person(0, 1) = 0", "nights(1) = 0",
            "window(0, 0) = 0", "nights(100) = 0", "turn(0) = 1", "nights(1) = 1", "nights(100) = 101", "person(0, 1) x9 = 9",
            "nights(1) = 111", "count(4) = 111");
        edge("term 3: no WINDOW is LIT, NIGHT is 1 more all the same", "window(0, 0) = 0", "person(0, 1) = 0", "nights(1) = 0",
            "count(0) = 1", "ofPerson(0, 2) = 20", "ofWindow(0, 3) = 0", "nights(2) = 0", "count(0) = 3", "loose(1) = 0",
            "count(0) = 4", "count(4) = 0");
        edge("term 3: who isn't MET neither reads nor pays", "window(0, 0) = 0", "person(0, 9) = 0", "person(0, 10) = 1",
            "turn(0) = 1", "nights(1) = 1", "ofPerson(0, 3) = 1", "ofPerson(0, 2) = 19", "ofPerson(1, 3) = 0",
            "ofPerson(1, 2) = 20", "ofWindow(0, 3) = 1");
    }

    private static void lastNight() {
        edge("19: STATE: NIGHT would be above 9999", "nights(100) x98 = 0", "nights(99) = 0", "count(0) = 9899",
            "loose(100) = 0", "count(0) = 9999", "nights(1) = STATE", "nights(100) = STATE", "loose(1) = STATE",
            "loose(100) = STATE", "count(0) = 9999");
        edge("19, 20: STATE: NIGHT would be above 9999", in(READER, "nights(100) x99 = 9900", "nights(100) = STATE",
            "loose(100) = STATE", "count(0) = 9900", "count(10) = 1", "count(6) = 0", "nights(99) = 9999", "count(0) = 9999",
            "nights(1) = STATE", "loose(1) = STATE"));
        edge("19, 20: STATE, where there is all the rest", in(VILLAGE, "nights(100) x98", "nights(95)", "count(0) = 9902",
            "nights(98) = STATE", "loose(98) = STATE", "nights(97)", "nights(1) = STATE", "loose(1) = STATE", "count(0) = 9999"));
        edge("19, 20: BEYOND is asked ahead of STATE", "nights(100) x99 = 0", "nights(98) = 0", "nights(2) = STATE",
            "loose(2) = STATE", "nights(101) = BEYOND", "nights(0) = BEYOND", "nights(-1) = BEYOND", "loose(101) = BEYOND",
            "loose(0) = BEYOND", "loose(-1) = BEYOND", "nights(MAX) = BEYOND", "nights(MIN) = BEYOND", "loose(MAX) = BEYOND",
            "loose(MIN) = BEYOND", "nights(1) = 0", "nights(101) = BEYOND", "nights(0) = BEYOND", "loose(101) = BEYOND",
            "loose(0) = BEYOND");
    }

    private static void rent() {
        edge("term 3: RENT, or as much as there is of EGGS: one more, just so many, one less, none", in(READER, "set(1, 9) = 1",
            "change(0, 2, 10) = 20", "nights(1) = 1", "ofPerson(0, 2) = 1", "ofWindow(0, 3) = 9", "nights(1) = 2",
            "ofPerson(0, 2) = 0", "ofWindow(0, 3) = 10", "nights(1) = 3", "ofPerson(0, 2) = 0", "ofWindow(0, 3) = 10",
            "change(0, 2, 9) = 0", "nights(1) = 4", "ofPerson(0, 2) = 0", "ofWindow(0, 3) = 19", "change(0, 2, 8) = 0",
            "nights(1) = 5", "ofPerson(0, 2) = 0", "ofWindow(0, 3) = 27"));
        edge("term 3: RENT 0, 1 at first, 9", in(READER, "nights(1) = 1", "ofPerson(0, 2) = 19", "ofWindow(0, 3) = 1",
            "set(1, 0) = 1", "nights(1) = 2", "ofPerson(0, 2) = 19", "ofWindow(0, 3) = 1", "set(1, 9) = 0", "nights(1) = 3",
            "ofPerson(0, 2) = 10", "ofWindow(0, 3) = 10"));
    }

    private static void mostRead() {
        edge("term 1: READ is 9999 at most", in(READER, "nights(100) x99 = 9900", "nights(99) = 9999", "ofPerson(0, 3) = 9999",
            "then(0, 0, 3) = 9999", "then(1, 0, 3) = 9999", "then(100, 0, 3) = 9999", "tell(9999) = 1", "tell(9999) = 2",
            "check() = 0", "tell(9999) = 1", "tell(10000) = 2", "check() = 2"));
        edge("term 1: READ is 9999 at most; who has read so often pays all the same", in(READER, "set(1, 0) = 1",
            "nights(100) x99 = 9900", "nights(98) = 9998", "then(1, 0, 3) = 9999", "then(2, 0, 3) = 9999", "set(1, 5) = 0",
            "thenEggs(1, 0) = 5", "thenEggs(2, 0) = 10", "then(2, 0, 2) = 10", "thenEggs(4, 0) = 20", "then(5, 0, 2) = 0"));
    }

    private static void mostEggs() {
        String[] rich = new String[12];
        rich[0] = "window(0, 0) = 0";
        rich[1] = "person(0, 1) x10 = 9";
        for (int p = 0; p < 10; p++) {
            rich[p + 2] = "change(" + p + ", 2, 9999) = 20";
        }
        edge("term 1: EGGS of one are 9999 at most, those of all", in(rich, "count(5) = 99990", "change(0, 2, 10000) = BEYOND",
            "change(0, 2, 9999) = 9999", "count(5) = 99990"));
        edge("term 1: EGGS of a WINDOW are 99999 at most", in(rich, "turn(0) = 1", "set(1, 9) = 1", "nights(100) x11 = 11000",
            "ofWindow(0, 3) = 99000", "nights(11) = 11110", "ofWindow(0, 3) = 99990", "count(5) = 99990", "change(0, 2, 8) = 0",
            "thenEggs(1, 0) = 99998", "change(0, 2, 9) = 8", "thenEggs(1, 0) = 99999", "change(0, 2, 10) = 9",
            "thenEggs(1, 0) = 99999", "thenEggs(2, 0) = 99999", "change(1, 2, 9) = 0", "nights(1) = 11120",
            "ofWindow(0, 3) = 99999", "nights(2) = 11140", "ofWindow(0, 3) = 99999"));
    }

    private static void loose() {
        edge("20: n is 1 to 100", in(VILLAGE, "loose(0) = BEYOND", "loose(101) = BEYOND", "loose(-1) = BEYOND",
            "loose(MIN) = BEYOND", "loose(MAX) = BEYOND", "count(0) = 7", "count(10) = 77", "count(6) = 1", "loose(1)",
            "count(0) = 8", "loose(100)", "count(0) = 108"));
        edge("20: READ of all together", in(READER, "loose(1) = 1", "loose(100) = 101", "count(4) = 101"));
        edge("20: FOG ahead of the NIGHT: 2, 0, 0, 3 with LIGHT 6, 8, 8, 5", "window(0, 14) = 0", "person(15, 6) = 0",
            "turn(0) = 1", "loose(1) = 1", "change(0, 1, 8) = 6", "loose(1) = 2", "loose(1) = 3", "loose(1) = 3",
            "change(0, 1, 5) = 8", "light(0, 15) = 5", "met(0) = 1");
        edge("20: FOG stays so; NIGHTS draw none", "loose(1) = 0", "count(6) = 2", "nights(5) = 0", "count(6) = 2",
            "count(10) = 1103527590", "set(0, 9) = 2", "nights(1) = 0", "count(6) = 9", "loose(1) = 0", "count(6) = 0",
            "count(10) = -1770082073");
    }

    private static void draws() {
        edge("term 3: z goes round (an int), and what is given is not below 0", "loose(1) = 0", "count(10) = 1103527590",
            "count(6) = 2", "loose(1) = 0", "count(10) = -1770082073", "count(6) = 0", "loose(1) = 0", "count(10) = 662824084",
            "count(6) = 0", "loose(1) = 0", "count(10) = -999580867", "count(6) = 3", "loose(1) = 0", "count(10) = -112468174",
            "count(6) = 3", "loose(1) = 0", "count(10) = -1778682749", "count(6) = 0");
        edge("term 3: z from the lowest, the highest, 0, -1", "seed(MIN) = 1", "loose(1) = 0", "count(10) = -2147471303",
            "count(6) = 0", "seed(MAX) = -2147471303", "loose(1) = 0", "count(10) = 1043980748", "count(6) = 1",
            "seed(0) = 1043980748", "loose(1) = 0", "count(10) = 12345", "count(6) = 0", "seed(-1) = 12345", "loose(1) = 0",
            "count(10) = -1103502900", "count(6) = 1");
    }

    private static void then() {
        edge("21: n is 0 to 100", in(VILLAGE, "then(-1, 1, 3) = BEYOND", "then(101, 1, 3) = BEYOND", "then(MIN, 1, 3) = BEYOND",
            "then(MAX, 1, 3) = BEYOND", "then(0, 1, 3) = 2", "then(1, 1, 3) = 2", "then(2, 1, 3) = 3", "then(100, 2, 0) = 0"));
        edge("21: one of PEOPLE that there are", in(VILLAGE, "then(2, 3, 0) = BEYOND", "then(2, -1, 0) = BEYOND",
            "then(2, MIN, 0) = BEYOND", "then(2, MAX, 0) = BEYOND", "then(2, 2, 0) = 0", "then(2, 0, 0) = 16"));
        edge("21: what is 0 to 4", in(VILLAGE, "then(2, 1, -1) = BEYOND", "then(2, 1, 5) = BEYOND", "then(2, 1, MIN) = BEYOND",
            "then(2, 1, MAX) = BEYOND", "then(2, 1, 0) = 21", "then(2, 1, 1) = 3", "then(2, 1, 2) = 13", "then(2, 1, 4) = 3"));
        edge("21: by 0, 1, 99, 100 NIGHTS", in(READER, "then(0, 0, 3) = 0", "then(1, 0, 3) = 1", "then(99, 0, 3) = 99",
            "then(100, 0, 3) = 100", "then(0, 0, 2) = 20", "then(19, 0, 2) = 1", "then(20, 0, 2) = 0", "then(21, 0, 2) = 0",
            "ofPerson(0, 3) = 0", "count(0) = 0"));
        edge("21: WANTS as it is then", in(READER, "tape 1+t = 3", "text(1) = 1", "then(0, 0, 4) = 1", "then(8, 0, 3) = 8",
            "then(9, 0, 3) = 9", "then(10, 0, 3) = 9", "then(9, 0, 4) = 10", "then(97, 0, 4) = 98", "then(98, 0, 4) = 99",
            "then(99, 0, 4) = 99", "then(100, 0, 3) = 9"));
    }

    private static void thenEggs() {
        edge("22: n is 0 to 100", in(VILLAGE, "thenEggs(-1, 1) = BEYOND", "thenEggs(101, 1) = BEYOND",
            "thenEggs(MIN, 1) = BEYOND", "thenEggs(MAX, 1) = BEYOND", "thenEggs(0, 1) = 4", "thenEggs(1, 1) = 4",
            "thenEggs(2, 1) = 7", "thenEggs(100, 0) = 2"));
        edge("22: a WINDOW is one of those that there are", in(VILLAGE, "thenEggs(2, 3) = BEYOND", "thenEggs(2, -1) = BEYOND",
            "thenEggs(2, MIN) = BEYOND", "thenEggs(2, MAX) = BEYOND", "thenEggs(2, 2) = 2", "thenEggs(2, 0) = 2"));
        edge("22: by 0, 1, 99, 100 NIGHTS", in(READER, "change(0, 2, 100) = 20", "thenEggs(0, 0) = 0", "thenEggs(1, 0) = 1",
            "thenEggs(99, 0) = 99", "thenEggs(100, 0) = 100", "change(0, 2, 99) = 100", "thenEggs(99, 0) = 99",
            "thenEggs(100, 0) = 99", "ofWindow(0, 3) = 0"));
    }

    private static void beyondTheLastNight() {
        edge("term 3: AHEAD goes beyond NIGHT 9999, too", "window(0, 0) = 0", "window(40, 35) = 1", "person(0, 1) = 0",
            "person(35, 1) = 1", "turn(0) = 1", "turn(1) = 2", "turn(1) = 3", "nights(100) x99", "nights(99)",
            "count(0) = 9999", "change(0, 2, 20) = 0", "change(1, 2, 20) = 0", "thenEggs(0, 0) = 20", "thenEggs(1, 0) = 21",
            "thenEggs(3, 0) = 21", "thenEggs(4, 0) = 22", "then(1, 1, 2) = 20", "then(2, 1, 2) = 19", "then(3, 1, 2) = 19",
            "then(5, 1, 2) = 19", "then(6, 1, 2) = 18", "tape t-9990", "text(1) = 1", "then(0, 0, 4) = 9", "then(1, 0, 4) = 10",
            "then(89, 0, 4) = 98", "then(90, 0, 4) = 99", "then(100, 0, 4) = 99", "count(0) = 9999");
    }

    private static void order() {
        edge("23: what is -1 to 5", in(VILLAGE, "order(-2) = BEYOND", "order(6) = BEYOND", "order(MIN) = BEYOND",
            "order(MAX) = BEYOND", "order(-1) = 2", "order(0) = 2", "order(1) = 1", "order(2) = 0"));
        edge("23: NONE: there is no i-th", in(VILLAGE, "order(3) = NONE", "order(4) = NONE", "order(5) = NONE", "order(2) = 0"));
        edge("23: no WINDOWS: none are MET", "order(-1) = 0", "order(0) = NONE", "order(5) = NONE", "person(0, 1) = 0",
            "order(-1) = 0", "order(6) = BEYOND", "order(-2) = BEYOND");
        edge("23: one WINDOW", "window(0, 0) = 0", "order(-1) = 0", "order(0) = 0", "order(1) = NONE", "person(0, 1) = 0",
            "order(-1) = 1", "order(0) = 0", "order(1) = NONE");
        edge("23: six WINDOWS", in(FULL, "order(5) = 5", "order(6) = BEYOND", "order(0) = 0"));
        edge("23: all ten are MET by each of six", "window(0, 0) x6 = 5", "person(0, 1) x10 = 9", "order(-1) = 60",
            "order(0) = 0", "order(1) = 1", "order(2) = 2", "order(3) = 3", "order(4) = 4", "order(5) = 5");
        edge("23: NIGHT goes on beyond 9999, too", "nights(100) x99 = 0", "nights(99) = 0", "window(0, 0) = 0",
            "window(0, 35) = 1", "person(0, 1) = 0", "person(0, 1) = 1", "person(35, 1) = 2", "tape 99-(t>9999)*98", "text(1) = 1",
            "met(0) = 0", "order(-1) = 2", "order(0) = 1", "order(1) = 0", "count(0) = 9999");
        edge("23: from tonight on: night by night", "window(40, 0) = 0", "window(60, 8) = 1", "window(0, 16) = 2",
            "person(0, 1) = 0", "person(8, 1) = 1", "person(8, 1) = 2", "person(16, 1) = 3", "order(-1) = 4", "order(0) = 0",
            "order(1) = 1", "order(2) = 2", "nights(1) = 0", "order(-1) = 4", "order(0) = 1", "order(1) = 0", "order(2) = 2",
            "nights(1) = 0", "order(-1) = 4", "order(0) = 0", "order(1) = 2", "order(2) = 1");
    }

    private static void orderTies() {
        edge("23: of several the first as a row", "window(0, 0) = 0", "window(0, 1) = 1", "window(0, 2) = 2", "order(-1) = 0",
            "order(0) = 0", "order(1) = 1", "order(2) = 2", "person(12, 1) = 0", "order(-1) = 1", "order(0) = 0", "order(1) = 1",
            "order(2) = 2");
        edge("23: of several the first as a row, not the last of the best", "window(40, 0) = 0", "window(40, 0) = 1",
            "window(0, 35) = 2", "window(0, 35) = 3", "person(0, 1) = 0", "order(-1) = 2", "order(0) = 0", "order(1) = 2",
            "order(2) = 1", "order(3) = 3", "nights(1) = 0", "order(-1) = 2", "order(0) = 2", "order(1) = 0", "order(2) = 3",
            "order(3) = 1");
        edge("23: nothing is paid or read, whatever TURNS are", "window(0, 0) = 0", "window(0, 0) = 1", "person(0, 1) = 0",
            "tape 1+r*99+(e<20)*99", "text(1) = 1", "turn(1) = 1", "order(-1) = 2", "order(0) = 0", "order(1) = 1",
            "nights(1) = 1", "order(-1) = 0", "order(0) = 0");
    }

    private static void seat() {
        edge("24: a WINDOW is one of those that there are", in(VILLAGE, "seat(3) = BEYOND", "seat(-1) = BEYOND",
            "seat(MIN) = BEYOND", "seat(MAX) = BEYOND", "seat(0) = 14", "seat(2) = 0"));
        String[] walls = new String[37];
        walls[0] = "window(0, 14) = 0";
        for (int c = 0; c < 36; c++) {
            walls[c + 1] = "cell(" + c + ", " + (1 + c % 3) + ") = 0";
        }
        edge("24: NONE: there is no YARD", in(walls, "seat(0) = NONE", "seat(1) = BEYOND", "cell(35, 0) = 3", "seat(0) = 35",
            "cell(35, 1) = 0", "cell(0, 0) = 1", "seat(0) = 0", "cell(14, 0) = 3", "seat(0) = 14", "cell(14, 2) = 0",
            "seat(0) = 0"));
        for (int c = 0; c < 36; c++) {
            walls[c] = "cell(" + c + ", " + (1 + c % 3) + ")";
        }
        walls[36] = "count(0) = 7";
        edge("24: NONE: there is no YARD, where there is all the rest", in(VILLAGE, in(walls, "seat(0) = NONE", "seat(2) = NONE",
            "seat(3) = BEYOND")));
        edge("24: of several the least", "window(0, 14) = 0", "seat(0) = 14", "cell(14, 1) = 0", "seat(0) = 8", "cell(8, 1) = 0",
            "seat(0) = 13", "cell(13, 2) = 0", "seat(0) = 15", "cell(15, 3) = 0", "seat(0) = 20");
        edge("24: all is dark: the least", "window(60, 14) = 0", "seat(0) = 0", "cell(0, 3) = 0", "seat(0) = 1", "nights(1) = 0",
            "seat(0) = 14");
        edge("24: others may sit there", "window(0, 14) = 0", "person(14, 1) x10 = 9", "seat(0) = 14");
    }

    private static void curtain() {
        edge("25: a WINDOW is one of those that there are", in(VILLAGE, "curtain(3, 15) = BEYOND", "curtain(-1, 15) = BEYOND",
            "curtain(MIN, 15) = BEYOND", "curtain(MAX, 15) = BEYOND", "curtain(0, 15) = 0", "curtain(2, 15) = 0"));
        edge("25: a CELL is 0 to 35", in(VILLAGE, "curtain(0, -1) = BEYOND", "curtain(0, 36) = BEYOND",
            "curtain(0, MIN) = BEYOND", "curtain(0, MAX) = BEYOND", "curtain(0, 0) = 0", "curtain(0, 35) = 0"));
        edge("25: STATE: the CELL is no YARD, but a WALL or a MIRROR", in(VILLAGE, "curtain(0, 26) = STATE",
            "curtain(0, 10) = STATE", "curtain(0, 4) = STATE", "curtain(0, 27) = 0"));
        edge("25: BEYOND is asked ahead of STATE", in(VILLAGE, "curtain(3, 26) = BEYOND", "curtain(-1, 10) = BEYOND"));
        edge("25: none fewer, one fewer, all fewer", "window(0, 14) = 0", "person(15, 8) = 0", "person(17, 6) x9 = 9",
            "curtain(0, 13) = 0", "curtain(0, 16) = 9", "curtain(0, 17) = 9", "curtain(0, 15) = 10", "met(0) = 1023",
            "change(0, 0, 14) = 15", "curtain(0, 15) = 9", "curtain(0, 14) = 0", "change(1, 0, 0) = 17", "curtain(0, 15) = 8");
        edge("25: none are MET, so none fewer", "window(60, 14) = 0", "person(15, 1) = 0", "curtain(0, 15) = 0", "nights(1) = 0",
            "curtain(0, 15) = 1", "curtain(0, 14) = 0");
    }

    private static void mirrors() {
        edge("26: a WINDOW is one of those that there are", in(VILLAGE, "mirrors(3, 16, 1, 0) = BEYOND",
            "mirrors(-1, 16, 1, 0) = BEYOND", "mirrors(MIN, 16, 1, 0) = BEYOND", "mirrors(MAX, 16, 1, 0) = BEYOND",
            "mirrors(0, 16, 1, 0) = 0", "mirrors(2, 0, 1, 0) = 0"));
        edge("26: a CELL is 0 to 35", in(VILLAGE, "mirrors(0, -1, 1, 0) = BEYOND", "mirrors(0, 36, 1, 0) = BEYOND",
            "mirrors(0, MIN, 1, 0) = BEYOND", "mirrors(0, MAX, 1, 0) = BEYOND", "mirrors(2, 0, 1, 0) = 0",
            "mirrors(2, 33, 1, 0) = 1", "mirrors(2, 33, 2, 0) = NONE", "mirrors(2, 35, 1, 0) = NONE"));
        edge("26: x is 1 to 99", in(VILLAGE, "mirrors(0, 14, 0, 0) = BEYOND", "mirrors(0, 14, 100, 0) = BEYOND",
            "mirrors(0, 14, -1, 0) = BEYOND", "mirrors(0, 14, MIN, 0) = BEYOND", "mirrors(0, 14, MAX, 0) = BEYOND",
            "mirrors(0, 14, 1, 0) = 0", "mirrors(0, 14, 12, 0) = 0", "mirrors(0, 14, 13, 0) = NONE",
            "mirrors(0, 14, 99, 0) = NONE"));
        edge("26: what is 0 to 4", in(VILLAGE, "mirrors(0, 16, 1, -1) = BEYOND", "mirrors(0, 16, 1, 5) = BEYOND",
            "mirrors(0, 16, 1, MIN) = BEYOND", "mirrors(0, 16, 1, MAX) = BEYOND", "mirrors(0, 16, 1, 0) = 0",
            "mirrors(0, 16, 1, 4) = NONE"));
        edge("26: BEYOND is asked ahead of NONE", in(VILLAGE, "mirrors(0, 14, 99, 5) = BEYOND", "mirrors(0, 14, 99, -1) = BEYOND",
            "mirrors(3, 14, 99, 0) = BEYOND", "mirrors(0, 36, 99, 0) = BEYOND", "mirrors(0, 14, 99, 4) = NONE"));
    }

    private static void howManyMirrors() {
        edge("26: there are not so many: of none", "window(0, 14) = 0", "mirrors(0, 16, 7, 0) = 0", "mirrors(0, 16, 7, 1) = NONE",
            "mirrors(0, 16, 7, 2) = NONE", "mirrors(0, 16, 7, 3) = NONE", "mirrors(0, 16, 7, 4) = NONE");
        edge("26: there are not so many: of one", "window(0, 14) = 0", "mirrors(0, 9, 7, 0) = 1", "mirrors(0, 9, 7, 1) = 8",
            "mirrors(0, 9, 7, 2) = 2", "mirrors(0, 9, 7, 3) = NONE", "mirrors(0, 9, 7, 4) = NONE");
        edge("26: there are two", "window(0, 14) = 0", "cell(15, 1) = 0", "cell(20, 1) = 0", "mirrors(0, 22, 4, 0) = 2",
            "mirrors(0, 22, 4, 1) = 8", "mirrors(0, 22, 4, 2) = 2", "mirrors(0, 22, 4, 3) = 10", "mirrors(0, 22, 4, 4) = 3");
        edge("26: 2 don't do", "window(0, 14) = 0", "cell(15, 1) = 0", "cell(20, 1) = 0", "mirrors(0, 22, 5, 0) = NONE",
            "mirrors(0, 22, 5, 1) = NONE", "mirrors(0, 22, 5, 2) = NONE", "mirrors(0, 22, 5, 3) = NONE",
            "mirrors(0, 22, 5, 4) = NONE");
        edge("26: 2 don't do, 3 would", "window(0, 14) = 0", "cell(8, 1) = 0", "cell(15, 1) = 0", "mirrors(0, 10, 4, 0) = 2",
            "mirrors(0, 9, 1, 0) = NONE");
        edge("26: LIGHT x or more: just so much, one more", "window(0, 14) = 0", "mirrors(0, 14, 9, 0) = 0",
            "mirrors(0, 14, 10, 0) = NONE", "mirrors(0, 15, 8, 0) = 0", "mirrors(0, 15, 9, 0) = NONE", "mirrors(0, 9, 7, 0) = 1",
            "mirrors(0, 9, 8, 0) = NONE", "mirrors(0, 17, 6, 0) = 0", "mirrors(0, 17, 7, 0) = NONE");
        edge("26: all is dark tonight", "window(60, 14) = 0", "mirrors(0, 14, 1, 0) = NONE", "mirrors(0, 9, 1, 0) = NONE",
            "nights(1) = 0", "mirrors(0, 14, 12, 0) = 0", "mirrors(0, 9, 10, 0) = 1", "mirrors(0, 9, 11, 0) = NONE");
    }

    private static void whereMirrorsStand() {
        edge("26: a WALL stays dark", "window(0, 14) = 0", "cell(16, 1) = 0", "mirrors(0, 16, 1, 0) = NONE",
            "mirrors(0, 14, 9, 0) = 0", "cell(14, 1) = 0", "mirrors(0, 14, 9, 0) = 0");
        edge("26: in YARDS: not where a WALL or a MIRROR is", "window(0, 14) = 0", "mirrors(0, 9, 7, 1) = 8", "cell(8, 1) = 0",
            "mirrors(0, 9, 7, 0) = 1", "mirrors(0, 9, 7, 1) = 15", "mirrors(0, 9, 7, 2) = 2", "cell(8, 3) = 1",
            "mirrors(0, 9, 7, 1) = 15", "cell(15, 1) = 0", "mirrors(0, 9, 1, 0) = NONE");
        String[] lane = new String[33];
        lane[0] = "window(0, 0) = 0";
        for (int c = 4; c < 36; c++) {
            lane[c - 3] = "cell(" + c + ", 1) = 0";
        }
        edge("26: not in that CELL, nor in that of the WINDOW; no YARD is left", in(lane, "mirrors(0, 3, 6, 0) = 0",
            "cell(1, 3) = 0", "cell(2, 3) = 0", "mirrors(0, 3, 1, 0) = NONE", "cell(1, 0) = 3", "mirrors(0, 3, 1, 0) = NONE",
            "mirrors(0, 2, 7, 0) = 0"));
        edge("26: not in the CELL of the WINDOW, though a RAY comes back to it", "window(39, 14) = 0", "cell(16, 3) = 0",
            "cell(28, 2) = 0", "cell(26, 3) = 0", "cell(13, 1) = 0", "cell(8, 1) = 0", "mirrors(0, 12, 1, 0) = 2",
            "mirrors(0, 12, 1, 1) = 18", "mirrors(0, 12, 1, 2) = 3", "mirrors(0, 12, 1, 3) = 20", "mirrors(0, 12, 1, 4) = 2");
    }

    private static void whichMirrorsAreFirst() {
        edge("26: the first by CELLS, then as 2, 3", "window(0, 14) = 0", "mirrors(0, 0, 5, 0) = 1", "mirrors(0, 0, 5, 1) = 2",
            "mirrors(0, 0, 5, 2) = 3", "mirrors(0, 35, 3, 1) = 17", "mirrors(0, 35, 3, 2) = 3", "mirrors(0, 5, 4, 1) = 2",
            "mirrors(0, 5, 4, 2) = 2", "mirrors(0, 30, 4, 1) = 12", "mirrors(0, 30, 4, 2) = 2", "mirrors(0, 33, 1, 1) = 15",
            "mirrors(0, 33, 1, 2) = 3");
        edge("26: 2 ahead of 3, where both do", in(FORK, "mirrors(0, 8, 4, 0) = 1", "mirrors(0, 8, 4, 1) = 20",
            "mirrors(0, 8, 4, 2) = 2", "mirrors(0, 8, 5, 0) = NONE", "cell(20, 3) = 0", "light(0, 8) = 4", "cell(20, 2) = 3",
            "light(0, 8) = 4"));
        edge("26: of two, 2 and 3 ahead of 3 and 2, where both do", in(FORK, "mirrors(0, 2, 3, 0) = 2", "mirrors(0, 2, 3, 1) = 8",
            "mirrors(0, 2, 3, 2) = 2", "mirrors(0, 2, 3, 3) = 20", "mirrors(0, 2, 3, 4) = 3", "cell(8, 3) = 0", "cell(20, 2) = 0",
            "light(0, 2) = 3"));
        edge("26: of two, both CELLS ahead of what they are", "window(0, 2) = 0", "cell(1, 1) = 0", "cell(3, 1) = 0",
            "cell(14, 1) = 0", "cell(7, 2) = 0", "mirrors(0, 21, 3, 0) = 2", "mirrors(0, 21, 3, 1) = 8", "mirrors(0, 21, 3, 2) = 3",
            "mirrors(0, 21, 3, 3) = 9", "mirrors(0, 21, 3, 4) = 3", "cell(8, 2) = 0", "cell(19, 3) = 0", "light(0, 21) = 3");
        edge("26: of two, the first pair as CELL, CELL, kind, kind", "window(0, 12) = 0", "cell(8, 1) = 0", "cell(13, 1) = 0",
            "mirrors(0, 9, 3, 0) = 2", "mirrors(0, 9, 3, 1) = 0", "mirrors(0, 9, 3, 2) = 2", "mirrors(0, 9, 3, 3) = 3",
            "mirrors(0, 9, 3, 4) = 3");
    }

    private static void whose() {
        edge("27: a set of others than PEOPLE", in(VILLAGE, "whose(8) = BEYOND", "whose(9) = BEYOND", "whose(-1) = BEYOND",
            "whose(-8) = BEYOND", "whose(MIN) = BEYOND", "whose(MAX) = BEYOND", "whose(0) = 3", "whose(4) = 4", "whose(7) = 0"));
        edge("27: no PEOPLE: the empty set alone", "whose(0) = 0", "whose(1) = BEYOND", "window(0, 0) x6 = 5", "whose(0) = 63",
            "whose(1) = BEYOND", "whose(-1) = BEYOND");
        edge("27: all ten; the eleventh is none", "window(0, 0) = 0", "window(0, 35) x5 = 5", "person(0, 1) x9 = 8",
            "whose(511) = 1", "whose(512) = BEYOND", "person(0, 1) = 9", "whose(1023) = 1", "whose(1024) = BEYOND",
            "whose(2047) = BEYOND", "whose(512) = 0", "whose(0) = 62", "change(9, 0, 35) = 0", "whose(511) = 1", "whose(512) = 62",
            "whose(0) = 0", "whose(1023) = 0");
    }
}
