/** Promises 16 to 18 and the texts of term 2, with answers written out by hand. */
public final class TextTests {
    private static final int BEYOND = Due.BEYOND;
    private static final int FULL = Due.FULL;

    private TextTests() {
    }

    private static void due(String what, long got, long want) {
        Due.due(what, got, want);
    }

    public static void main(String[] args) {
        feed();
        text();
        faults();
        endings();
        openOnes();
        law();
        values();
        wraps();
        lawsAtWork();
        Due.finish("TextTests");
    }

    private static void feed() {
        Due.part("promise 16");
        OneWindow x = new OneWindow();
        due("feed(0, 0)", x.feed(0, 0), BEYOND);
        due("feed(0, 9)", x.feed(0, 9), BEYOND);
        due("feed(0, -1)", x.feed(0, -1), BEYOND);
        due("count(7)", x.count(7), 0);
        due("the lowest first", x.feed(0x7f7f7f7f7f7f2b66L, 2), 2);
        due("the next behind", x.feed(0xff35L, 1), 3);
        due("text(0)", x.text(0), 1);
        due("f+5", x.law(0, 7, 0, 0, 0), 12);
        due("eight", x.feed(0x39383736312b2831L, 8), 8);
        due("1(..", x.text(0), -11);
        due("eight of a word below 0", x.feed(0xb1312b312b312b31L, 8), 8);
        due("the eighth is no sign", x.text(0), -17);
        for (int i = 1; i <= 6; i++) {
            due("feed(.., 8)", x.feed(0x3131313131313131L, 8), 8 * i);
        }
        due("feed(.., 3)", x.feed(0, 3), FULL);
        due("feed(.., 9)", x.feed(0, 9), BEYOND);
        due("count(7)", x.count(7), 48);
        due("feed(.., 2)", x.feed(0, 2), 50);
        due("feed(.., 1)", x.feed(0, 1), FULL);
        due("told(4)", x.told(4), 2);
        due("text(0)", x.text(0), -14);
        due("count(7)", x.count(7), 0);
    }

    private static void text() {
        Due.part("promise 17");
        OneWindow x = new OneWindow();
        Due.feed(x, "d*7");
        due("text(2)", x.text(2), BEYOND);
        due("text(-1)", x.text(-1), BEYOND);
        due("the tape stays", x.count(7), 3);
        due("text(0)", x.text(0), 1);
        due("the tape is empty", x.count(7), 0);
        due("law(0, ..)", x.law(0, 0, 3, 0, 0), 21);
        due("a fault", Due.write(x, 0, "d*7+"), -14);
        due("the tape is empty", x.count(7), 0);
        due("the one ahead stays", x.law(0, 0, 3, 0, 0), 21);
        due("in place of it", Due.write(x, 0, "d*8"), 1);
        due("law(0, ..)", x.law(0, 0, 3, 0, 0), 24);
        due("the other has none", x.law(1, 3, 9, 0, 0), 3);
        due("told(1)", x.told(1), 2);
        due("open ones", Due.write(x, 0, "d<(1|(2<3)&!4"), -23);
        due("are open no longer", Due.write(x, 0, "!!!!!d<4"), 1);
        due("open ones again", Due.write(x, 0, "d*(!(1+"), -17);
        due("are none to close", Due.write(x, 0, "d)"), -11);
        due("nor to join", Due.write(x, 0, "d-1"), 1);
        due("law(0, ..)", x.law(0, 0, 9, 0, 0), 8);
    }

    private static void fault(int use, String text, int place) {
        OneWindow x = new OneWindow();
        due("use " + use + ", " + text, Due.write(x, use, text), -10 - place);
    }

    private static void fine(int use, String text) {
        OneWindow x = new OneWindow();
        due("use " + use + ", " + text, Due.write(x, use, text), 1);
    }

    private static void faults() {
        Due.part("promise 17, FAULT");
        fault(0, " d", 0);
        fault(0, "d +f", 1);
        fault(0, "n", 0);
        fault(0, "d+e", 2);
        fault(1, "f", 0);
        fault(1, "n*(s", 3);
        fault(0, "-1", 0);
        fault(0, "+d", 0);
        fault(0, "d++f", 2);
        fault(0, "d+-f", 2);
        fault(0, "df", 1);
        fault(0, "d1", 1);
        fault(0, "1d", 1);
        fault(0, "12345", 4);
        fault(0, "00000", 4);
        fault(0, "d+12345+f", 6);
        fault(0, ")", 0);
        fault(0, "d)", 1);
        fault(0, "(d))", 3);
        fault(0, "()", 1);
        fault(0, "(d+)", 3);
        fault(0, "d(f)", 1);
        fault(0, "(d)(f)", 3);
        fault(0, "(d)f", 3);
        fault(0, "(d)4", 3);
        fault(0, "d!f", 1);
        fault(0, "d!=f", 1);
        fault(0, "d<f<l", 3);
        fault(0, "d<f=l", 3);
        fault(0, "d=f+2>l", 5);
        fault(0, "d==f", 2);
        fault(0, "d<=f", 2);
        fault(0, "d&&f", 2);
        fault(0, "d||f", 2);
        fault(0, "d<f&s>l|1=2=3", 11);
        fault(0, "(d<f)<(f<d)<l", 11);
        fault(0, "d^f", 1);
        fault(0, "d\u00ff", 1);
        fault(0, "\u0000", 0);
        fault(0, "D", 0);
        fault(0, "d+f;", 3);
    }

    private static void endings() {
        Due.part("promise 17, ends too early");
        fault(0, "", 0);
        fault(1, "", 0);
        fault(0, "d+", 2);
        fault(0, "d|", 2);
        fault(0, "d&f<", 4);
        fault(0, "!", 1);
        fault(0, "(", 1);
        fault(0, "(d", 2);
        fault(0, "((d)", 4);
        fault(0, "(d+", 3);
        fault(0, "12*(34-!", 8);
        fault(0, "1+1+1+1+1+1+1+1+1+1+1+1+1+1+1+1+1+1+1+1+1+1+1+1+1+", 50);
        fine(0, "1+1+1+1+1+1+1+1+1+1+1+1+1+1+1+1+1+1+1+1+1+1+1+1+12");
    }

    private static void openOnes() {
        Due.part("promise 17, at most 5 are open");
        fine(0, "!!!!!d");
        fault(0, "!!!!!!d", 5);
        fine(0, "(((((d)))))");
        fault(0, "((((((d", 5);
        fine(0, "!(!(!d))");
        fault(0, "!(!(!(d", 5);
        fault(0, "!(!(!!d", 5);
        fine(0, "!!!!!d+!!!!!f*(((((l)))))");
        fine(0, "!(!!!d+!!!f)");
        fault(0, "!(!!!d+!!!!f)", 10);
        fault(0, "!(!!!d+!!!f)+!!!!!!", 18);
        fine(0, "((((!d+!f))))*!!!!!4");
        fault(0, "((((!d+!!f", 8);
        fine(0, "(d)*(d)*(d)*(d)*(d)*(d)*(d)");
        fine(0, "d<f|l<s&1=2|3>4&(5<6)=(7<8)");
        fine(0, "(d<f)<(f<d)");
        fine(0, "1<(2<(3<4))");
        fine(0, "(d&f)<(l|s)");
        fine(0, "((d=1)|f)>(l<2&s)");
        fine(0, "0000+9999");
        fine(1, "n+e*r-t/2%3");
    }

    private static void law() {
        Due.part("promise 18");
        OneWindow x = new OneWindow();
        due("law(2, ..)", x.law(2, 1, 1, 1, 1), BEYOND);
        due("law(-1, ..)", x.law(-1, 1, 1, 1, 1), BEYOND);
        due("without a text", x.law(0, 3, 4, 90, 90), 7);
        due("without a text, held", x.law(0, -3, 3, 90, 90), 1);
        due("without a text, held", x.law(0, 50, 50, 0, 0), 99);
        due("without a text, round", x.law(0, Integer.MAX_VALUE, 1, 0, 0), 1);
        due("without a text", x.law(1, 3, 90, 90, 90), 3);
        due("without a text, held", x.law(1, 0, 90, 90, 90), 1);
        due("without a text, held", x.law(1, 100, 0, 0, 0), 99);
        for (int i = 0; i < 4; i++) {
            Due.write(x, 0, "" + "fdls".charAt(i));
            Due.write(x, 1, "" + "nert".charAt(i));
            due("the name " + i, x.law(0, 11, 22, 33, 44), 11 * (i + 1));
            due("the name " + i, x.law(1, 55, 66, 77, 88), 55 + 11 * i);
        }
        Due.write(x, 0, "f-d");
        due("held from below", x.law(0, 1, 1, 0, 0), 1);
        due("held from far below", x.law(0, -2000000000, 1, 0, 0), 1);
        due("held from above", x.law(0, 100, 0, 0, 0), 99);
        due("just not held", x.law(0, 99, 0, 0, 0), 99);
    }

    /** With f 7, d 3, l 20, s 2. */
    private static void value(String text, int want) {
        OneWindow x = new OneWindow();
        due(text + " is read", Due.write(x, 0, text), 1);
        due(text, x.law(0, 7, 3, 20, 2), want);
    }

    private static void values() {
        Due.part("term 2, values");
        value("2+3*4", 14);
        value("(2+3)*4", 20);
        value("20-7-3", 10);
        value("20-(7-3)", 16);
        value("60/5/2", 6);
        value("60/(5/2)", 30);
        value("50%30%7", 6);
        value("7/2*10", 30);
        value("10+f/0", 10);
        value("10+f%0", 10);
        value("10+(0-7)/2", 7);
        value("10+(0-7)%2", 9);
        value("10+7/(0-2)", 7);
        value("10+7%(0-2)", 11);
        value("10+(1<2)", 11);
        value("10+(2<2)", 10);
        value("10+(3>2)", 11);
        value("10+(2>2)", 10);
        value("10+(2=2)", 11);
        value("10+(2=3)", 10);
        value("10*(5&3)+2", 12);
        value("10*(5&0)+2", 2);
        value("10*(0&5)+2", 2);
        value("10*(0|7)+2", 12);
        value("10*(7|0)+2", 12);
        value("10*(0|0)+2", 2);
        value("10*((0-4)|0)+2", 12);
        value("10+!0", 11);
        value("10+!9", 10);
        value("10+!!9", 11);
        value("!f", 1);
        value("!f*5+3", 3);
        value("!(f<d)*5", 5);
        value("10+!(0-1)", 10);
        value("10+!f*5", 10);
        value("10+!0*5", 15);
        value("10*(1|0&0)+2", 12);
        value("10*((1|0)&0)+2", 2);
        value("10*(1<2&2<1|3=3)+2", 12);
        value("10*(1+1<2)+2", 2);
        value("10*(3<1+3)+2", 12);
        value("10*(2=1+1)+2", 12);
        value("10*(0|5=5)+2", 12);
        value("f+d*l-s", 65);
        value("0042", 42);
        value("9999-9990", 9);
        value("l/d%4", 2);
        value("l%d*4", 8);
    }

    private static void wraps() {
        Due.part("term 2, ints that wrap");
        OneWindow x = new OneWindow();
        Due.write(x, 0, "(f+d)/1000000");
        due("a number of 7 digits is none", x.law(0, 1, 1, 1, 1), 2);
        Due.write(x, 0, "(f+d)/9999/9999");
        due("round by +", x.law(0, Integer.MIN_VALUE, -1, 0, 0), 21);
        Due.write(x, 0, "(f-d)/9999/9999");
        due("round by -", x.law(0, Integer.MIN_VALUE, 1, 0, 0), 21);
        Due.write(x, 0, "f*d");
        due("round by *", x.law(0, 1 << 31, 3, 0, 0), 1);
        due("round by *", x.law(0, 65537, 65537, 0, 0), 99);
        due("round by *", x.law(0, 1 << 16, (1 << 16) + 7, 0, 0), 99);
        due("round by *", x.law(0, 0x55555555, 3, 0, 0), 1);
        due("round by *", x.law(0, 0xAAAAAAAB, 33, 0, 0), 11);
        Due.write(x, 0, "5+f/d");
        due("the lowest by -1", x.law(0, Integer.MIN_VALUE, -1, 0, 0), 1);
        Due.write(x, 0, "5+f%d");
        due("the lowest by -1, rest", x.law(0, Integer.MIN_VALUE, -1, 0, 0), 5);
    }

    private static void lawsAtWork() {
        Due.part("term 1, FADES and WANTS by texts");
        OneWindow x = new OneWindow();
        x.window(29, 0);
        x.set(0, 3);
        Due.write(x, 0, "f*10+d");
        due("fog 3, dims 2: nothing is left of 16", x.light(0, 1), 0);
        Due.write(x, 0, "s+1");
        int[] bySteps = {16, 15, 13, 10, 6, 1};
        for (int c = 0; c < 6; c++) {
            due("light(0, " + c + ") by steps", x.light(0, c), bySteps[c]);
        }
        Due.write(x, 0, "l/2");
        int[] byHalves = {16, 8, 4, 2, 1, 0};
        for (int c = 0; c < 6; c++) {
            due("light(0, " + c + ") by halves", x.light(0, c), byHalves[c]);
        }
        x.cell(3, 3);
        Due.write(x, 0, "s+1");
        due("steps go on behind a mirror", x.light(0, 9), 6);
        x.person(2, 1);
        Due.write(x, 1, "r*5+t*4");
        due("WANTS, held", x.ofPerson(0, 4), 1);
        x.turn(0);
        due("13 for 1, 13 for 9, not for 18", x.nights(3), 2);
        due("WANTS", x.ofPerson(0, 4), 22);
        Due.write(x, 1, "e-10");
        due("WANTS by eggs", x.ofPerson(0, 4), 8);
    }
}
