/** Each boundary that the document names in term 2 and in promises 16 to 18. */
public final class EdgesOfTexts {
    private static final String[] VILLAGE = EdgesOfVillage.VILLAGE;
    private static final String FIFTY = "1234567890123456789012345678901234567890123456789012345678";

    private EdgesOfTexts() {
    }

    public static void main(String[] args) {
        feed();
        tapeIsOfFifty();
        text();
        emptyTape();
        faultPlaces();
        endsTooEarly();
        numbers();
        names();
        open();
        rows();
        law();
        held();
        wraps();
        quotients();
        truths();
        fadesAtWork();
        wantsAtWork();
        Due.finish("EdgesOfTexts");
    }

    private static void edge(String sentence, String... lines) {
        Edge.edge(sentence, lines);
    }

    private static String[] in(String[] scene, String... lines) {
        return Edge.in(scene, lines);
    }

    private static void fine(String sentence, int use, String text) {
        edge(sentence, "tape " + text + " = " + text.length(), "text(" + use + ") = 1", "count(7) = 0");
    }

    private static void fault(String sentence, int use, String text, int place) {
        edge(sentence, "tape " + text + " = " + text.length(), "text(" + use + ") = " + (-10 - place), "count(7) = 0",
            "told(1) = 0", "told(2) = 0", "told(3) = 0", "told(4) = 0", "told(5) = 0");
    }

    /** What a text for FADES gives with f 7, d 3, l 20, s 2. */
    private static void gives(String sentence, String text, int want) {
        edge(sentence, "tape " + text + " = " + text.length(), "text(0) = 1", "law(0, 7, 3, 20, 2) = " + want);
    }

    private static void feed() {
        edge("16: n is 1 to 8", in(VILLAGE, "feed(0x31, 0) = BEYOND", "feed(0x31, 9) = BEYOND", "feed(0x31, -1) = BEYOND",
            "feed(0x31, MIN) = BEYOND", "feed(0x31, MAX) = BEYOND", "count(7) = 5"));
        edge("16: one byte, the lowest", "feed(0x393939393939392b, 1) = 1", "feed(0x3939393939393931, 1) = 2",
            "text(0) = -10", "feed(0x3939393939393964, 1) = 1", "text(0) = 1", "law(0, 0, 7, 0, 0) = 7");
        edge("16: eight bytes, the lowest first: d*2+f/30", "feed(0x30332f662b322a64, 8) = 8", "text(0) = 1",
            "law(0, 60, 4, 0, 0) = 10", "feed(0x30332f662b322a64, 7) = 7", "text(0) = 1", "law(0, 60, 4, 0, 0) = 28",
            "feed(0x30332f662b322a64, 6) = 6", "text(0) = -16", "feed(0x30332f662b322a64, 3) = 3", "text(0) = 1",
            "law(0, 60, 4, 0, 0) = 8");
        edge("16: a byte is 0 to 255, also the eighth of a word below 0", "feed(0xff332f662b322a64, 8) = 8", "text(0) = -17",
            "feed(0xb0332f662b322a64, 8) = 8", "text(0) = -17", "feed(0xe4, 1) = 1", "text(0) = -10", "feed(0x164, 2) = 2",
            "text(0) = -11", "feed(0x0, 1) = 1", "text(0) = -10", "feed(0x164, 1) = 1", "text(0) = 1");
        edge("16: what is fed comes behind what is there", "feed(0x2d6c, 2) = 2", "feed(0x64, 1) = 3", "text(0) = 1",
            "law(0, 0, 3, 10, 0) = 7");
    }

    private static void tapeIsOfFifty() {
        String twelve = "12345678+901";
        edge("16: THE TAPE holds 50 bytes at most", "feed(0x2b312b312b312b31, 8) x6 = 48", "feed(0x313131, 3) = FULL",
            "feed(0x31, 8) = FULL", "feed(0x31, 4) = FULL", "count(7) = 48", "feed(0x2b31, 2) = 50", "feed(0x31, 1) = FULL",
            "feed(0x31, 8) = FULL", "count(7) = 50", "text(0) = -60", "count(7) = 0", "feed(0x31, 1) = 1");
        edge("16: 49 bytes, and one more", "feed(0x2b312b312b312b31, 8) x6 = 48", "feed(0x35, 1) = 49", "feed(0x3131, 2) = FULL",
            "feed(0x32, 1) = 50", "feed(0x32, 1) = FULL", "text(0) = 1", "law(0, 0, 0, 0, 0) = 76");
        edge("16: eight at the end", "feed(0x2b31, 2) = 2", "feed(0x2b312b312b312b31, 8) x5 = 42", "feed(0x312d, 7) = 49",
            "text(0) = -52", "feed(0x2b31, 2) = 2", "feed(0x2b312b312b312b31, 8) x5 = 42", "feed(0x39322d312b312b31, 8) = 50",
            "feed(0x31, 1) = FULL", "text(0) = 1", "law(0, 0, 0, 0, 0) = 1");
        edge("16: FULL, where there is all the rest", in(EdgesOfVillage.HOUSE, "feed(0x312b312b312b312b, 8) x5 = 45",
            "feed(0x312b312b312b, 6) = FULL", "feed(0x312b, 2) = 47", "feed(0x3333312b, 4) = FULL", "feed(0x32312b, 3) = 50",
            "feed(0x31, 1) = FULL", "text(1) = 1", "law(1, 3, 5, 0, 0) = 44"));
        edge("16: BEYOND is asked ahead of FULL", "tape " + FIFTY.substring(0, 50) + " = 50", "feed(0x31, 0) = BEYOND",
            "feed(0x31, 9) = BEYOND", "feed(0x31, -1) = BEYOND", "feed(0x31, 1) = FULL", "text(1) = -14");
        edge("16: what was refused isn't there", "tape " + twelve + " = 12", "feed(0x2b, 9) = BEYOND", "feed(0x2b, 0) = BEYOND",
            "count(7) = 12", "text(0) = -14");
        edge("17: a full TAPE of signs and numbers", "tape 1+2*3-4/5%6<7=8 = 15", "text(0) = -23",
            "tape f+d*l-s/2%9<1&2=3|4>5&!(6+7)*8=9&f+d*l|s<f+d*l+9*8 = 50", "text(0) = 1", "law(0, 0, 0, 0, 0) = 1");
    }

    private static void text() {
        edge("17: a USE is 0 or 1; BEYOND, and THE TAPE stays", in(VILLAGE, "text(2) = BEYOND", "text(-1) = BEYOND",
            "text(MIN) = BEYOND", "text(MAX) = BEYOND", "count(7) = 5", "text(1) = 1", "count(7) = 0",
            "law(1, 3, 5, 9, 9) = 11"));
        edge("17: in place of the one ahead", "tape f+1", "text(0) = 1", "law(0, 4, 0, 0, 0) = 5", "tape d*2", "text(0) = 1",
            "law(0, 4, 6, 0, 0) = 12", "tape 7", "text(0) = 1", "law(0, 4, 6, 0, 0) = 7", "law(1, 4, 6, 0, 0) = 4");
        edge("17: a FAULT is no ERROR; the one ahead stays; THE TAPE is empty, too", "tape d*2 = 3", "text(0) = 1",
            "tape d*3+ = 4", "text(0) = -14", "count(7) = 0", "law(0, 0, 6, 0, 0) = 12", "tape f-d) = 4", "text(0) = -13",
            "count(7) = 0", "law(0, 0, 6, 0, 0) = 12", "told(1) = 0", "told(2) = 0", "told(3) = 0", "told(4) = 0", "told(5) = 0");
        edge("17: a FAULT of a first TEXT: there is none", "tape d*3+ = 4", "text(0) = -14", "law(0, 5, 6, 0, 0) = 11",
            "tape n*3+ = 4", "text(1) = -14", "law(1, 5, 6, 0, 0) = 5");
        edge("17: what a FAULT leaves open is open no longer", "tape !(((! = 5", "text(0) = -15", "tape (((((d))))) = 11",
            "text(0) = 1", "tape (d<(f<(l = 8", "text(0) = -18", "tape d<f = 3", "text(0) = 1", "tape d) = 2", "text(0) = -11", "tape d+! = 3", "text(0) = -13", "tape d = 1", "text(0) = 1",
            "law(0, 0, 7, 0, 0) = 7", "tape 9-(8* = 5", "text(0) = -15", "tape d+1 = 3", "text(0) = 1", "law(0, 0, 7, 0, 0) = 8");
    }

    private static void emptyTape() {
        edge("17: THE TAPE is empty: the FAULT is 0", "text(0) = -10", "text(1) = -10", "text(2) = BEYOND", "tape d = 1",
            "text(0) = 1", "text(0) = -10", "law(0, 9, 6, 0, 0) = 6");
    }

    private static void faultPlaces() {
        String sentence = "17: FAULT, the place of the first byte with which no TEXT goes on";
        String[] first = {" d", "+d", "-1", "*d", "/d", "%d", "<d", "=d", ">d", "&d", "|d", ")d", "n", "D", "\u0000", "\u00e4"};
        for (String text : first) {
            fault(sentence, 0, text, 0);
        }
        String[] second = {"d ", "dd", "d1", "1d", "d!", "d(", "d)", "d\u00ff", "!)", "!+", "()", "(*"};
        for (String text : second) {
            fault(sentence, 0, text, 1);
        }
        String[] third = {"d+)", "d++", "d+-", "d*/", "d<=", "d&&", "d||", "d= ", "d%e"};
        for (String text : third) {
            fault(sentence, 0, text, 2);
        }
        fault(sentence + ": the last one", 0, "d+f+l+s ", 7);
        fault(sentence + ": the fiftieth", 0, "1+".repeat(24) + "1)", 49);
        fault(sentence + ": not a later one", 0, "d+)+)", 2);
        fault(sentence + ": behind a (", 0, "(d)d", 3);
        fault(sentence + ": behind a (", 0, "(d)(f)", 3);
        fault(sentence + ": behind a (", 0, "(d))", 3);
        fault(sentence + ": behind a (", 0, "(d)!", 3);
        fault(sentence + ": behind a (", 0, "(d)7", 3);
    }

    private static void endsTooEarly() {
        String sentence = "17: FAULT, how many there are, if it ends too early";
        for (String text : new String[] {"(", "!", "d+", "(d", "d*", "d<", "d&", "d|", "((d)", "!(!", "(d<f", "7%", "5678+"}) {
            fault(sentence, 0, text, text.length());
        }
        fault(sentence + ": of 50", 0, "1+".repeat(25), 50);
        fault(sentence + ": of 50", 0, "(" + "1+".repeat(24) + "1", 50);
        fault(sentence + ": of 50", 1, "1+".repeat(24) + "!!", 50);
        fine(sentence + ": 50 that don't", 0, "1+".repeat(24) + "12");
        fine(sentence + ": 50 that don't", 1, "(" + "1+".repeat(23) + "12)");
    }

    private static void numbers() {
        gives("term 2: a NUMBER has 1 digit at least", "9", 9);
        gives("term 2: a NUMBER has 4 digits at most", "9999-9998", 1);
        gives("term 2: a NUMBER has 4 digits at most, also from 0 on", "0042", 42);
        gives("term 2: a NUMBER has 4 digits at most, also from 0 on", "5+0000", 5);
        gives("term 2: a NUMBER of each digit", "1234+5678-6890", 22);
        gives("term 2: a NUMBER of each digit", "9-0", 9);
        gives("term 2: a NUMBER of 2, of 3 digits", "105-98", 7);
        fault("term 2: a NUMBER of 5 digits is none", 0, "12345", 4);
        fault("term 2: a NUMBER of 5 digits is none", 0, "00001", 4);
        fault("term 2: a NUMBER of 5 digits is none", 1, "n+12345", 6);
        fault("term 2: a NUMBER of 5 digits is none", 1, "(9999)+(99990)", 12);
        fault("term 2: no byte beside the digits: / is one less than 0, : one more than 9", 0, "1:", 1);
        fault("term 2: no byte beside the digits: / is one less than 0, : one more than 9", 0, "1/:", 2);
        fault("term 2: no byte beside the digits: / is one less than 0, : one more than 9", 0, "1//", 2);
    }

    private static void names() {
        for (int c = 0; c < 256; c++) {
            boolean sign = "(!0123456789".indexOf(c) >= 0;
            String text = "" + (char) c;
            namesOf(0, "fdls", c, sign, text);
            namesOf(1, "nert", c, sign, text);
        }
        fine("term 2, FADES: f, d, l, s", 0, "f+d+l+s");
        fine("term 2, WANTS: n, e, r, t", 1, "n+e+r+t");
    }

    /** Each byte alone: a name or a digit is a TEXT, ! and ( end too early, no other one begins a TEXT. */
    private static void namesOf(int use, String names, int c, boolean sign, String text) {
        if (names.indexOf(c) >= 0 || c >= '0' && c <= '9') {
            fine("term 2: a TEXT of one byte, " + c, use, text);
        } else {
            fault("term 2: no TEXT begins by byte " + c + ", or goes on behind it", use, text, sign ? 1 : 0);
        }
    }

    private static void open() {
        String sentence = "term 2: at most 5 of ! and ( are open at once";
        fine(sentence, 0, "!!!!!d");
        fault(sentence, 0, "!!!!!!d", 5);
        fine(sentence, 0, "(((((d)))))");
        fault(sentence, 0, "((((((d))))))", 5);
        fine(sentence, 0, "(!(!(d)))");
        fault(sentence, 0, "(!(!((d))))", 5);
        fault(sentence, 0, "(!(!(!d)))", 5);
        fine(sentence, 0, "!(!(!d))");
        fault(sentence, 0, "!(!(!!d))", 5);
        fault(sentence, 0, "!(!(!(d)))", 5);
        fine(sentence + ": a ! ends with its Q", 0, "!d+!d+!d+!d+!d+!d");
        fine(sentence + ": a ! ends with its Q", 0, "((((!d*!f))))");
        fine(sentence + ": a ! ends with its Q", 0, "!!!!!d-!!!!!f");
        fine(sentence + ": a ( ends with its )", 0, "(d)+(d)+(d)+(d)+(d)+(d)");
        fine(sentence + ": a ( ends with its )", 0, "((((d)+(f))+(l))+(s))*!1");
        fine(sentence + ": a ! ahead of a ( ends with its )", 0, "!!!!(d)&!!!!(f)&(!!!!l)");
        fault(sentence + ": a ! ahead of a ( is open in it", 0, "!!!!(!d)", 5);
        fine(sentence + ": in a ( there are 4 more", 0, "(!!!!d+!!!!f)");
        fault(sentence + ": in a ( there are 4 more", 0, "(!!!!d+!!!!!f)", 11);
        fault(sentence + ": behind five that have ended", 0, "(((((d)))))+((((((", 17);
    }

    private static void rows() {
        fine("term 2, T: one A", 0, "d");
        gives("term 2, T: many A", "10*(0|0|0|0|0|5)+1", 11);
        gives("term 2, T: many A", "10*(0|0|0|0|0|0)+1", 1);
        gives("term 2, A: many B", "10*(1&2&3&4&5&6)+1", 11);
        gives("term 2, A: many B", "10*(1&2&3&0&5&6)+1", 1);
        fine("term 2, B: one S, or two", 0, "d<f");
        fault("term 2, B: not three", 0, "d<f<l", 3);
        fault("term 2, B: not three", 0, "d=f=l", 3);
        fault("term 2, B: not three", 0, "d>f>l", 3);
        fault("term 2, B: not three", 0, "d<f>l", 3);
        fault("term 2, B: not three, what S ever there are", 0, "d+f*l<7-2*3+1=4", 13);
        fault("term 2, B: not three, in a (", 0, "(d<f=l)", 4);
        fault("term 2, B: not three, behind a (", 0, "(d<f)<(f<d)<1", 11);
        fine("term 2, B: two in each B", 0, "d<f&f<l|l<s&s<d");
        fine("term 2, B: two in each ( beside", 0, "(d<f)<(f<d)");
        fine("term 2, B: two in a ( in one of two", 0, "d<(f<(l<(s<1)))");
        fault("term 2, B: not three, the second in a (", 0, "d<(f<l)<s", 7);
        gives("term 2: A is in T: & joins tighter than |", "10*(1|0&0)+1", 11);
        gives("term 2: A is in T: & joins tighter than |", "10*(0&0|1)+1", 11);
        gives("term 2: B is in A: = joins tighter than &", "10*(2&2=2)+1", 11);
        gives("term 2: S is in B: + joins tighter than <", "10*(3<1+3)+1", 11);
        gives("term 2: S is in B: - joins tighter than >", "10*(7-5>1)+1", 11);
        gives("term 2: P is in S: * joins tighter than + and -", "50-2*3+4*5", 64);
        gives("term 2: Q is in P: ! joins tighter than *", "3+!0*5", 8);
        gives("term 2: a ( joins tightest", "(50-2)*(3-1)/(4+4)", 12);
        gives("term 2, S: many P, from the left", "20-1-2-3-4-5", 5);
        gives("term 2, P: many Q, from the left", "3600/2/3/4/5", 30);
        gives("term 2, P: many Q, from the left", "99%50%30%12*5/2", 17);
    }

    private static void law() {
        edge("18: a USE is 0 or 1", in(VILLAGE, "law(2, 1, 1, 1, 1) = BEYOND", "law(-1, 1, 1, 1, 1) = BEYOND",
            "law(MIN, 1, 1, 1, 1) = BEYOND", "law(MAX, 1, 1, 1, 1) = BEYOND", "law(0, 1, 2, 3, 4) = 3",
            "law(0, 1, 2, 13, 4) = 4", "law(1, 1, 2, 5, 4) = 3"));
        edge("18: its NAMES in order", "tape f*1+d*2+l*3+s*4", "text(0) = 1", "law(0, 1, 0, 0, 0) = 1", "law(0, 0, 1, 0, 0) = 2",
            "law(0, 0, 0, 1, 0) = 3", "law(0, 0, 0, 0, 1) = 4", "tape n*5+e*6+r*7+t*8", "text(1) = 1",
            "law(1, 1, 0, 0, 0) = 5", "law(1, 0, 1, 0, 0) = 6", "law(1, 0, 0, 1, 0) = 7", "law(1, 0, 0, 0, 1) = 8");
    }

    private static void held() {
        edge("term 2: held within 1 to 99", "tape f", "text(0) = 1", "law(0, 1, 0, 0, 0) = 1", "law(0, 0, 0, 0, 0) = 1",
            "law(0, -1, 0, 0, 0) = 1", "law(0, MIN, 0, 0, 0) = 1", "law(0, 2, 0, 0, 0) = 2", "law(0, 98, 0, 0, 0) = 98",
            "law(0, 99, 0, 0, 0) = 99", "law(0, 100, 0, 0, 0) = 99", "law(0, MAX, 0, 0, 0) = 99", "tape n", "text(1) = 1",
            "law(1, 1, 0, 0, 0) = 1", "law(1, 0, 0, 0, 0) = 1", "law(1, -1, 0, 0, 0) = 1", "law(1, MIN, 0, 0, 0) = 1",
            "law(1, 98, 0, 0, 0) = 98", "law(1, 99, 0, 0, 0) = 99", "law(1, 100, 0, 0, 0) = 99", "law(1, MAX, 0, 0, 0) = 99");
        edge("term 2: held at the end alone", "tape f-d+l", "text(0) = 1", "law(0, 5, 9, 6, 0) = 2", "law(0, 500, 450, 6, 0) = 56");
        edge("term 2: held without a TEXT, too: d+f", "law(0, 0, 0, 9, 9) = 1", "law(0, 0, 1, 9, 9) = 1", "law(0, 1, 1, 9, 9) = 2",
            "law(0, -5, 5, 9, 9) = 1", "law(0, 49, 50, 9, 9) = 99", "law(0, 50, 50, 9, 9) = 99", "law(0, MAX, 1, 9, 9) = 1",
            "law(0, MIN, -1, 9, 9) = 99");
        edge("term 2: held without a TEXT, too: n", "law(1, 0, 50, 50, 50) = 1", "law(1, 1, 50, 50, 50) = 1",
            "law(1, -1, 50, 50, 50) = 1", "law(1, 99, 50, 50, 50) = 99", "law(1, 100, 50, 50, 50) = 99",
            "law(1, MIN, 50, 50, 50) = 1", "law(1, MAX, 50, 50, 50) = 99");
    }

    private static void wraps() {
        edge("term 2: ints that wrap, +", "tape f+d", "text(0) = 1", "law(0, MAX, 1, 0, 0) = 1", "law(0, MIN, -1, 0, 0) = 99",
            "law(0, MAX, MIN, 0, 0) = 1", "law(0, MIN, MIN, 0, 0) = 1", "tape f+d+l", "text(0) = 1",
            "law(0, MAX, MAX, 44, 0) = 42");
        edge("term 2: ints that wrap, -", "tape f-d", "text(0) = 1", "law(0, MIN, 1, 0, 0) = 99", "law(0, MAX, -1, 0, 0) = 1",
            "law(0, MIN, MAX, 0, 0) = 1", "law(0, 0, MIN, 0, 0) = 1", "law(0, MIN, MIN, 0, 0) = 1", "law(0, -2, MAX, 0, 0) = 99");
        edge("term 2: ints that wrap, *", "tape f*d", "text(0) = 1", "law(0, 65536, 65536, 0, 0) = 1",
            "law(0, 65536, 32768, 0, 0) = 1", "law(0, 65536, 32767, 0, 0) = 99", "law(0, MIN, -1, 0, 0) = 1",
            "law(0, 0xAAAAAAAB, 33, 0, 0) = 11", "law(0, MAX, -1, 0, 0) = 1", "law(0, MAX, MAX, 0, 0) = 1",
            "law(0, MIN, MAX, 0, 0) = 1", "law(0, 0x55555555, -1, 0, 0) = 1");
        gives("term 2: ints that wrap, of numbers: 9999 * 9999 * 21 doesn't", "9999*9999*21/9999/9999+50", 71);
        gives("term 2: ints that wrap, of numbers: 9999 * 9999 * 22 does", "9999*9999*22/9999/9999+50", 30);
        gives("term 2: ints that wrap, of numbers: 9999 * 9999 * 43 is 4172747", "9999*9999*43/99/999", 42);
    }

    private static void quotients() {
        edge("term 2: / cut", "tape f/d+50", "text(0) = 1", "law(0, 7, 2, 0, 0) = 53", "law(0, -7, 2, 0, 0) = 47",
            "law(0, 7, -2, 0, 0) = 47", "law(0, -7, -2, 0, 0) = 53", "law(0, 1, 2, 0, 0) = 50", "law(0, -1, 2, 0, 0) = 50",
            "law(0, 0, 2, 0, 0) = 50", "law(0, 6, 2, 0, 0) = 53");
        edge("term 2: / by 0 is 0", "tape f/d+50", "text(0) = 1", "law(0, 7, 0, 0, 0) = 50", "law(0, 0, 0, 0, 0) = 50",
            "law(0, MIN, 0, 0, 0) = 50", "law(0, 7, 1, 0, 0) = 57", "law(0, 7, -1, 0, 0) = 43");
        edge("term 2: / of the lowest int by -1 wraps", "tape f/d", "text(0) = 1", "law(0, MIN, -1, 0, 0) = 1",
            "law(0, -2147483647, -1, 0, 0) = 99", "law(0, MIN, MIN, 0, 0) = 1", "law(0, MAX, MIN, 0, 0) = 1",
            "law(0, MIN, -107374183, 0, 0) = 19", "law(0, MIN, -107374182, 0, 0) = 20");
        edge("term 2: % the rest that / leaves", "tape f%d+50", "text(0) = 1", "law(0, 7, 2, 0, 0) = 51", "law(0, -7, 2, 0, 0) = 49",
            "law(0, 7, -2, 0, 0) = 51", "law(0, -7, -2, 0, 0) = 49", "law(0, 1, 2, 0, 0) = 51", "law(0, 6, 3, 0, 0) = 50",
            "law(0, 2, 3, 0, 0) = 52", "law(0, 3, 3, 0, 0) = 50", "law(0, -14, 9, 0, 0) = 45");
        edge("term 2: % by 0 is 0", "tape f%d+50", "text(0) = 1", "law(0, 7, 0, 0, 0) = 50", "law(0, -7, 0, 0, 0) = 50",
            "law(0, 0, 0, 0, 0) = 50", "law(0, 7, 1, 0, 0) = 50");
        edge("term 2: % of the lowest int by -1 is 0", "tape f%d+50", "text(0) = 1", "law(0, MIN, -1, 0, 0) = 50",
            "law(0, MIN, 100, 0, 0) = 2", "law(0, MIN, MIN, 0, 0) = 50", "law(0, 40, MIN, 0, 0) = 90");
    }

    private static void truths() {
        edge("term 2: | is 1 or 0, what is not 0 being true", "tape (f|d)+9", "text(0) = 1", "law(0, 0, 0, 0, 0) = 9",
            "law(0, 1, 0, 0, 0) = 10", "law(0, 0, 1, 0, 0) = 10", "law(0, -1, 0, 0, 0) = 10", "law(0, 0, MIN, 0, 0) = 10",
            "law(0, 5, 6, 0, 0) = 10", "law(0, -1, 1, 0, 0) = 10");
        edge("term 2: & is 1 or 0, what is not 0 being true", "tape (f&d)+9", "text(0) = 1", "law(0, 0, 0, 0, 0) = 9",
            "law(0, 1, 0, 0, 0) = 9", "law(0, 0, 1, 0, 0) = 9", "law(0, 1, 2, 0, 0) = 10", "law(0, -1, MIN, 0, 0) = 10",
            "law(0, -1, 1, 0, 0) = 10", "law(0, 4, 4, 0, 0) = 10");
        edge("term 2: < is 1 or 0", "tape (f<d)+9", "text(0) = 1", "law(0, 3, 3, 0, 0) = 9", "law(0, 3, 4, 0, 0) = 10",
            "law(0, 4, 3, 0, 0) = 9", "law(0, MIN, MAX, 0, 0) = 10", "law(0, MAX, MIN, 0, 0) = 9", "law(0, -1, 0, 0, 0) = 10");
        edge("term 2: = is 1 or 0", "tape (f=d)+9", "text(0) = 1", "law(0, 3, 3, 0, 0) = 10", "law(0, 3, 4, 0, 0) = 9",
            "law(0, 4, 3, 0, 0) = 9", "law(0, MIN, MIN, 0, 0) = 10", "law(0, 300, 300, 0, 0) = 10", "law(0, MIN, MAX, 0, 0) = 9");
        edge("term 2: > is 1 or 0", "tape (f>d)+9", "text(0) = 1", "law(0, 3, 3, 0, 0) = 9", "law(0, 3, 4, 0, 0) = 9",
            "law(0, 4, 3, 0, 0) = 10", "law(0, MIN, MAX, 0, 0) = 9", "law(0, MAX, MIN, 0, 0) = 10", "law(0, 0, -1, 0, 0) = 10");
        edge("term 2: ! is 1 or 0", "tape !f+9", "text(0) = 1", "law(0, 0, 0, 0, 0) = 10", "law(0, 1, 0, 0, 0) = 9",
            "law(0, -1, 0, 0, 0) = 9", "law(0, MIN, 0, 0, 0) = 9", "law(0, 7, 0, 0, 0) = 9", "tape !!f+9", "text(0) = 1",
            "law(0, 7, 0, 0, 0) = 10", "law(0, 0, 0, 0, 0) = 9", "tape 9-(8-!f)", "text(0) = 1", "law(0, 0, 0, 0, 0) = 2",
            "law(0, 3, 0, 0, 0) = 1", "tape 5+!f*3", "text(0) = 1", "law(0, 0, 0, 0, 0) = 8", "law(0, -3, 0, 0, 0) = 5");
    }

    private static void fadesAtWork() {
        edge("term 2, FADES: s is 0 at the first step", "window(9, 0) = 0", "tape s = 1", "text(0) = 1", "light(0, 0) = 18",
            "light(0, 1) = 17", "light(0, 2) = 16", "light(0, 3) = 14", "light(0, 4) = 11", "light(0, 5) = 7");
        edge("term 2, FADES: s goes on behind a MIRROR", "window(9, 0) = 0", "tape s*s = 3", "text(0) = 1", "cell(2, 3) = 0",
            "light(0, 1) = 17", "light(0, 2) = 16", "light(0, 8) = 12", "light(0, 14) = 3", "light(0, 20) = 0");
        edge("term 2, FADES: l is what it SHINES at the first step", "window(9, 0) = 0", "tape l/2 = 3", "text(0) = 1",
            "light(0, 1) = 9", "light(0, 2) = 5", "light(0, 3) = 3", "light(0, 4) = 2", "light(0, 5) = 1");
        edge("term 2, FADES: held at 1, so 0 dims by 1; held at 99", "window(9, 0) = 0", "tape 0 = 1", "text(0) = 1",
            "light(0, 1) = 17", "light(0, 5) = 13", "tape 0-9999 = 6", "text(0) = 1", "light(0, 5) = 13", "tape 9999 = 4",
            "text(0) = 1", "light(0, 1) = 0", "light(0, 0) = 18");
        edge("term 2, FADES: all that there is; one less", "window(9, 0) = 0", "tape l", "text(0) = 1", "light(0, 1) = 0",
            "tape l-1", "text(0) = 1", "light(0, 1) = 1", "light(0, 2) = 0");
        edge("term 2, FADES: f is FOG, 0 and 9; d is DIMS", "window(29, 0) = 0", "tape f+1 = 3", "text(0) = 1", "light(0, 1) = 15",
            "set(0, 9) = 0", "light(0, 1) = 6", "light(0, 2) = 0", "tape d*3 = 3", "text(0) = 1", "light(0, 1) = 10",
            "become(0, 59) = 2", "light(0, 1) = 0", "become(0, 9) = 5", "light(0, 1) = 15");
        edge("term 2, FADES: without a TEXT d+f, FOG 9 and DIMS 3", "window(59, 0) = 0", "light(0, 1) = 4", "light(0, 2) = 1",
            "light(0, 3) = 0", "set(0, 3) = 0", "light(0, 1) = 1", "set(0, 4) = 3", "light(0, 1) = 0", "set(0, 9) = 4",
            "light(0, 1) = 0", "light(0, 0) = 7");
    }

    private static void wantsAtWork() {
        edge("term 2, WANTS: held at 1 and at 99", "window(39, 0) = 0", "person(0, 20) = 0", "tape 0 = 1", "text(1) = 1",
            "ofPerson(0, 4) = 1", "met(0) = 1", "tape n*5 = 3", "text(1) = 1", "ofPerson(0, 4) = 99", "met(0) = 0", "tape n*4+19",
            "text(1) = 1", "ofPerson(0, 4) = 99", "tape n*4+18", "text(1) = 1", "ofPerson(0, 4) = 98");
        edge("term 2, WANTS: without a TEXT n, 1 and 20", "person(0, 1) = 0", "person(0, 20) = 1", "ofPerson(0, 4) = 1",
            "ofPerson(1, 4) = 20", "nights(9) = 0", "ofPerson(0, 4) = 1", "change(1, 2, 0) = 20", "ofPerson(1, 4) = 20");
        edge("term 2, WANTS: e, r, t as they are", "window(0, 0) = 0", "turn(0) = 1", "person(0, 2) = 0", "tape e+r*30+t*2",
            "text(1) = 1", "ofPerson(0, 4) = 20", "nights(1) = 0", "ofPerson(0, 4) = 22", "change(0, 2, 0) = 20",
            "ofPerson(0, 4) = 2", "nights(1) = 1", "ofPerson(0, 4) = 34", "change(0, 2, 9999) = 0", "ofPerson(0, 4) = 99");
    }
}
