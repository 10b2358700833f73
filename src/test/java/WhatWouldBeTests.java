/** Promises 19 to 27, with answers written out by hand. */
public final class WhatWouldBeTests {
    private static final int BEYOND = Due.BEYOND;
    private static final int NONE = Due.NONE;
    private static final int STATE = Due.STATE;

    private WhatWouldBeTests() {
    }

    private static void due(String what, long got, long want) {
        Due.due(what, got, want);
    }

    public static void main(String[] args) {
        nights();
        nightsToTheEnd();
        mostEggs();
        wantsAsThen();
        loose();
        looseFog();
        then();
        thenEggs();
        order();
        orderTies();
        orderOfSix();
        seat();
        curtain();
        mirrorsNone();
        mirrorsOne();
        mirrorsTwo();
        mirrorsWhere();
        whose();
        Due.finish("WhatWouldBeTests");
    }

    private static void nights() {
        Due.part("promise 19");
        OneWindow x = new OneWindow();
        due("nights(0)", x.nights(0), BEYOND);
        due("nights(-1)", x.nights(-1), BEYOND);
        due("nights(101)", x.nights(101), BEYOND);
        due("nights(MAX)", x.nights(Integer.MAX_VALUE), BEYOND);
        due("count(0)", x.count(0), 0);
        x.window(0, 14);
        x.window(0, 20);
        x.person(14, 9);
        x.person(20, 8);
        x.person(2, 7);
        due("none is lit", x.nights(5), 0);
        x.turn(1);
        x.turn(0);
        x.change(0, 2, 3);
        x.set(1, 2);
        due("night 5: by 0", x.nights(1), 3);
        due("pays 2", x.ofPerson(0, 2), 1);
        due("pays 2", x.ofPerson(1, 2), 18);
        due("pays 2", x.ofPerson(2, 2), 18);
        due("eggs of 0", x.ofWindow(0, 3), 6);
        due("eggs of 1", x.ofWindow(1, 3), 0);
        due("night 6: by 1, one of the three", x.nights(1), 4);
        due("eggs of 1", x.ofWindow(1, 3), 2);
        due("night 7: by 0", x.nights(1), 7);
        due("pays what there is", x.ofPerson(0, 2), 0);
        due("eggs of 0", x.ofWindow(0, 3), 11);
        due("night 8, 9", x.nights(2), 11);
        due("reads for nothing", x.ofPerson(0, 3), 3);
        due("eggs of 0", x.ofWindow(0, 3), 15);
        x.set(1, 0);
        due("for no rent", x.nights(2), 15);
        due("eggs of 0", x.ofWindow(0, 3), 15);
    }

    private static void nightsToTheEnd() {
        Due.part("promises 19, 20, 21, the last night");
        OneWindow x = new OneWindow();
        x.window(0, 0);
        x.person(0, 1);
        x.turn(0);
        for (int i = 0; i < 99; i++) {
            x.nights(100);
        }
        due("count(0)", x.count(0), 9900);
        due("nights(100)", x.nights(100), STATE);
        due("loose(100)", x.loose(100), STATE);
        due("nights(101)", x.nights(101), BEYOND);
        due("loose(0)", x.loose(0), BEYOND);
        due("count(0)", x.count(0), 9900);
        due("z", x.count(10), 1);
        due("loose(98)", x.loose(98), 9998);
        due("nights(1)", x.nights(1), 9999);
        due("count(0)", x.count(0), 9999);
        due("nights(1)", x.nights(1), STATE);
        due("loose(1)", x.loose(1), STATE);
        due("told(3)", x.told(3), 4);
        due("READ is 9999 at most", x.then(100, 0, 3), 9999);
        Due.write(x, 1, "t-9999-1");
        due("beyond the last night", x.then(100, 0, 4), 99);
        due("beyond the last night", x.then(50, 0, 4), 49);
    }

    private static void mostEggs() {
        Due.part("term 1, EGGS of a window are 99999 at most");
        OneWindow x = new OneWindow();
        x.window(0, 0);
        x.turn(0);
        x.set(1, 9);
        for (int p = 0; p < 10; p++) {
            x.person(0, 1);
            x.change(p, 2, 9999);
        }
        for (int i = 0; i < 12; i++) {
            x.nights(100);
        }
        due("all that they had", x.ofWindow(0, 3), 99990);
        due("and they have none", x.ofPerson(9, 2), 0);
        x.change(0, 2, 9);
        due("one more time", x.thenEggs(1, 0), 99999);
        x.change(0, 2, 30);
        due("never more", x.thenEggs(4, 0), 99999);
        x.nights(4);
        due("never more", x.ofWindow(0, 3), 99999);
    }

    private static void wantsAsThen() {
        Due.part("promise 19, WANTS as it is then");
        OneWindow x = new OneWindow();
        x.window(0, 7);
        x.person(7, 9);
        x.person(7, 2);
        x.turn(0);
        Due.write(x, 1, "n+r");
        due("one is sated at once", x.nights(1), 2);
        due("one is sated at once", x.nights(1), 3);
        due("the other after 8", x.nights(20), 9);
        due("WANTS", x.ofPerson(1, 4), 10);
        Due.write(x, 1, "41-t+(e>0)*99");
        x.change(0, 2, 0);
        due("wants less each night, the other as much", x.nights(10), 9);
        due("night 32 is light enough", x.nights(1), 10);
        due("for the one without eggs", x.ofPerson(0, 3), 2);
    }

    private static void loose() {
        Due.part("promise 20");
        OneWindow x = new OneWindow();
        due("loose(0)", x.loose(0), BEYOND);
        due("loose(101)", x.loose(101), BEYOND);
        due("loose(-1)", x.loose(-1), BEYOND);
        due("z", x.count(10), 1);
        int[] z = {1103527590, -1770082073, 662824084, -999580867, -112468174, -1778682749};
        int[] fog = {2, 0, 0, 3, 3, 0};
        for (int i = 0; i < z.length; i++) {
            due("loose(1)", x.loose(1), 0);
            due("z", x.count(10), z[i]);
            due("FOG", x.count(6), fog[i]);
            due("NIGHT", x.count(0), i + 1);
        }
        x.seed(-1);
        due("loose(4)", x.loose(4), 0);
        due("z", x.count(10), -396452581);
        due("FOG stays", x.set(0, 0), 1);
    }

    /** Ahead of the nights FOG is 2, 0, 0, 3, 3, 0: one step from 9 there is 6, 8, 8, 5, 5, 8. */
    private static void looseFog() {
        Due.part("promise 20, fog ahead of the night");
        OneWindow x = new OneWindow();
        x.window(0, 14);
        x.person(15, 7);
        x.person(15, 6);
        x.turn(0);
        int[] read = {1, 3, 5, 5, 5, 7};
        for (int i = 0; i < read.length; i++) {
            due("loose(1), " + i, x.loose(1), read[i]);
        }
        due("eggs", x.ofWindow(0, 3), 7);
        OneWindow y = new OneWindow();
        y.window(0, 14);
        y.person(15, 7);
        y.person(15, 6);
        y.turn(0);
        due("loose(6)", y.loose(6), 7);
        due("z", y.count(10), -1778682749);
        y.set(0, 3);
        due("no draw in plain nights", y.nights(2), 7);
        due("nor ahead", y.then(5, 1, 3), 4);
    }

    private static void then() {
        Due.part("promise 21");
        OneWindow x = new OneWindow();
        x.window(0, 14);
        x.window(40, 14);
        x.person(14, 3);
        x.person(15, 9);
        x.turn(0);
        x.turn(1);
        x.turn(1);
        x.set(1, 3);
        Due.write(x, 1, "n+t/50");
        due("0: CELL", x.then(0, 1, 0), 15);
        due("0: NEED", x.then(0, 1, 1), 9);
        due("0: EGGS", x.then(0, 1, 2), 20);
        due("0: READ", x.then(0, 0, 3), 0);
        due("1: READ", x.then(1, 0, 3), 1);
        due("2: READ, borrowed is dark on odd nights", x.then(2, 0, 3), 1);
        due("3: READ", x.then(3, 0, 3), 2);
        due("7: READ", x.then(7, 0, 3), 5);
        due("7: EGGS", x.then(7, 0, 2), 5);
        due("100: EGGS", x.then(100, 0, 2), 0);
        due("100: WANTS", x.then(100, 0, 4), 5);
        due("100: the other", x.then(100, 1, 3), 0);
        due("no night went by", x.count(0), 0);
        due("nothing was paid", x.count(5), 40);
        due("EGGS", x.ofPerson(0, 2), 20);
        due("then(-1, 0, 0)", x.then(-1, 0, 0), BEYOND);
        due("then(101, 0, 0)", x.then(101, 0, 0), BEYOND);
        due("then(0, 2, 0)", x.then(0, 2, 0), BEYOND);
        due("then(0, -1, 0)", x.then(0, -1, 0), BEYOND);
        due("then(0, 0, -1)", x.then(0, 0, -1), BEYOND);
        due("then(0, 0, 5)", x.then(0, 0, 5), BEYOND);
    }

    private static void thenEggs() {
        Due.part("promise 22");
        OneWindow x = new OneWindow();
        x.window(0, 14);
        x.window(0, 16);
        x.person(15, 8);
        x.turn(0);
        x.turn(0);
        x.turn(1);
        x.set(1, 4);
        x.nights(1);
        due("0", x.thenEggs(0, 0), 4);
        due("1", x.thenEggs(1, 0), 8);
        due("2", x.thenEggs(2, 1), 4);
        due("2: the other", x.thenEggs(2, 0), 8);
        due("100", x.thenEggs(100, 0), 16);
        due("100", x.thenEggs(100, 1), 4);
        due("as it was", x.ofWindow(0, 3), 4);
        due("thenEggs(-1, 0)", x.thenEggs(-1, 0), BEYOND);
        due("thenEggs(101, 0)", x.thenEggs(101, 0), BEYOND);
        due("thenEggs(0, 2)", x.thenEggs(0, 2), BEYOND);
        due("thenEggs(0, -1)", x.thenEggs(0, -1), BEYOND);
    }

    private static void ordered(OneWindow x, int most, int... row) {
        String night = "night " + x.count(0) + ": ";
        due(night + "most", x.order(-1), most);
        for (int i = 0; i < 6; i++) {
            due(night + "place " + i, x.order(i), i < row.length ? row[i] : NONE);
        }
    }

    /** 0 is dark on odd nights and has one guest, 1 on multiples of 3 and has two. */
    private static void order() {
        Due.part("promise 23");
        OneWindow x = new OneWindow();
        ordered(x, 0);
        due("order(-2)", x.order(-2), BEYOND);
        due("order(6)", x.order(6), BEYOND);
        x.window(40, 0);
        x.window(60, 35);
        x.person(0, 1);
        x.person(35, 1);
        x.person(35, 1);
        ordered(x, 3, 0, 1);
        x.nights(1);
        ordered(x, 3, 1, 0);
        x.nights(1);
        ordered(x, 2, 1, 0);
        x.nights(1);
        ordered(x, 2, 0, 1);
        due("no night went by", x.count(0), 3);
        due("nobody read", x.count(4), 0);
        due("order(2)", x.order(2), NONE);
        due("order(-2)", x.order(-2), BEYOND);
        due("order(MAX)", x.order(Integer.MAX_VALUE), BEYOND);
        Due.write(x, 1, "1+99*(t<4)");
        ordered(x, 2, 0, 1);
        Due.write(x, 1, "1+99*(r>0)+(20-e)*99");
        ordered(x, 2, 0, 1);
    }

    private static void orderTies() {
        Due.part("promise 23, the first as a row");
        OneWindow x = new OneWindow();
        x.window(0, 0);
        x.window(40, 0);
        x.window(0, 0);
        x.window(0, 35);
        x.person(0, 3);
        ordered(x, 3, 0, 2, 1, 3);
        x.change(0, 0, 20);
        ordered(x, 0, 0, 1, 2, 3);
        x.change(0, 0, 0);
        Due.write(x, 1, "n+(r>0)*99+(e<20)*99");
        ordered(x, 3, 0, 2, 1, 3);
        x.nights(1);
        ordered(x, 3, 0, 1, 2, 3);
        x.image();
        x.window(0, 0);
        x.window(0, 0);
        ordered(x, 5, 0, 1, 2, 3, 4, 5);
        x.restore();
        ordered(x, 3, 0, 1, 2, 3);
    }

    /** Each lamp's own night of a week: by WANTS that let it meet on that night alone. */
    private static void orderOfSix() {
        Due.part("promise 23, six");
        OneWindow x = new OneWindow();
        int[] night = {3, 5, 0, 1, 4, 2};
        for (int w = 0; w < 6; w++) {
            x.window(9, 7 * w);
            x.person(7 * w, 1 + night[w]);
        }
        for (int c = 0; c < 36; c++) {
            x.cell(c, 1);
        }
        Due.write(x, 1, "99-(n=t+1)*90");
        ordered(x, 6, 2, 3, 5, 0, 4, 1);
    }

    private static void seat() {
        Due.part("promise 24");
        OneWindow x = new OneWindow();
        due("seat(0)", x.seat(0), BEYOND);
        x.window(0, 14);
        due("its own", x.seat(0), 14);
        x.person(14, 1);
        due("others may sit there", x.seat(0), 14);
        x.cell(14, 2);
        due("the least of four", x.seat(0), 8);
        x.cell(8, 3);
        due("a mirror is none", x.seat(0), 13);
        x.cell(13, 1);
        due("nor is a wall", x.seat(0), 15);
        due("seat(1)", x.seat(1), BEYOND);
        due("seat(-1)", x.seat(-1), BEYOND);
        x.window(60, 20);
        due("all is dark", x.seat(1), 0);
        x.cell(0, 1);
        due("all is dark", x.seat(1), 1);
        for (int c = 0; c < 36; c++) {
            x.cell(c, 1 + c % 3);
        }
        due("no yard", x.seat(0), NONE);
        due("no yard, no window", x.seat(2), BEYOND);
        x.cell(35, 0);
        due("the only one", x.seat(0), 35);
    }

    private static void curtain() {
        Due.part("promise 25");
        OneWindow x = new OneWindow();
        due("curtain(0, 0)", x.curtain(0, 0), BEYOND);
        x.window(0, 14);
        x.person(15, 1);
        x.person(16, 1);
        x.person(16, 9);
        x.person(14, 9);
        due("near", x.curtain(0, 15), 2);
        due("far", x.curtain(0, 16), 1);
        due("behind", x.curtain(0, 17), 0);
        due("aside", x.curtain(0, 0), 0);
        due("in its own cell", x.curtain(0, 14), 0);
        due("nothing stays", x.light(0, 16), 7);
        due("and it is a yard", x.cell(15, 0), 0);
        x.cell(13, 2);
        x.cell(12, 1);
        due("a mirror", x.curtain(0, 13), STATE);
        due("a wall", x.curtain(0, 12), STATE);
        due("no window, of a wall", x.curtain(1, 12), BEYOND);
        due("curtain(-1, 0)", x.curtain(-1, 0), BEYOND);
        due("curtain(0, 36)", x.curtain(0, 36), BEYOND);
        due("curtain(0, -1)", x.curtain(0, -1), BEYOND);
        due("told(3)", x.told(3), 2);
    }

    private static void mirrored(OneWindow x, int window, int cell, int light, int... row) {
        String which = "mirrors(" + window + ", " + cell + ", " + light + ", ";
        due(which + "0)", x.mirrors(window, cell, light, 0), row.length / 2);
        for (int what = 1; what <= 4; what++) {
            int want = what <= row.length ? row[what - 1] : NONE;
            due(which + what + ")", x.mirrors(window, cell, light, what), want);
        }
    }

    private static void mirrorsNone() {
        Due.part("promise 26");
        OneWindow x = new OneWindow();
        due("no window", x.mirrors(0, 0, 1, 0), BEYOND);
        x.window(0, 14);
        int[][] beyond = {{1, 0, 1, 0}, {-1, 0, 1, 0}, {0, 36, 1, 0}, {0, -1, 1, 0}, {0, 0, 0, 0}, {0, 0, 100, 0},
            {0, 0, -1, 0}, {0, 0, 1, -1}, {0, 0, 1, 5}};
        for (int[] b : beyond) {
            due("beyond", x.mirrors(b[0], b[1], b[2], b[3]), BEYOND);
        }
        mirrored(x, 0, 14, 9);
        mirrored(x, 0, 16, 7);
        mirrored(x, 0, 26, 7);
        for (int what = 0; what < 5; what++) {
            due("2 don't do", x.mirrors(0, 14, 10, what), NONE);
            due("2 don't do", x.mirrors(0, 16, 8, what), NONE);
            due("2 don't do", x.mirrors(0, 0, 99, what), NONE);
        }
    }

    private static void mirrorsOne() {
        Due.part("promise 26, one");
        OneWindow x = new OneWindow();
        x.window(0, 14);
        mirrored(x, 0, 9, 7, 8, 2);
        mirrored(x, 0, 10, 6, 8, 2);
        mirrored(x, 0, 3, 6, 2, 2);
        mirrored(x, 0, 6, 6, 8, 3);
        mirrored(x, 0, 7, 1, 8, 3);
        mirrored(x, 0, 21, 7, 15, 3);
        mirrored(x, 0, 19, 7, 13, 2);
        due("too far by one", x.mirrors(0, 10, 7, 0), NONE);
        OneWindow y = new OneWindow();
        y.window(0, 12);
        y.cell(13, 1);
        mirrored(y, 0, 2, 4, 0, 2);
        mirrored(y, 0, 33, 3, 30, 3);
        OneWindow z = new OneWindow();
        z.window(0, 23);
        z.cell(22, 1);
        mirrored(z, 0, 33, 5, 35, 2);
        mirrored(z, 0, 3, 4, 5, 3);
        x.window(29, 14);
        mirrored(x, 1, 10, 10, 8, 2);
        due("dims by 2", x.mirrors(1, 10, 11, 0), NONE);
        x.window(60, 14);
        due("dark tonight", x.mirrors(2, 14, 1, 0), NONE);
        x.nights(1);
        mirrored(x, 2, 14, 12);
        mirrored(x, 2, 9, 10, 8, 2);
    }

    /** Walls leave the window in 14 but some of its rays, so that one turn doesn't do. */
    private static void mirrorsTwo() {
        Due.part("promise 26, two");
        OneWindow x = new OneWindow();
        x.window(0, 14);
        x.cell(15, 1);
        x.cell(20, 1);
        mirrored(x, 0, 22, 1, 2, 2, 4, 3);
        mirrored(x, 0, 22, 2, 2, 2, 4, 3);
        mirrored(x, 0, 22, 3, 8, 2, 10, 3);
        mirrored(x, 0, 22, 4, 8, 2, 10, 3);
        due("too far by two", x.mirrors(0, 22, 5, 0), NONE);
        OneWindow y = new OneWindow();
        y.window(0, 14);
        y.cell(8, 1);
        y.cell(13, 1);
        mirrored(y, 0, 12, 5, 18, 3, 20, 2);
        mirrored(y, 0, 12, 1, 18, 3, 20, 2);
        OneWindow z = new OneWindow();
        z.window(0, 14);
        z.cell(8, 1);
        z.cell(15, 1);
        mirrored(z, 0, 10, 4, 20, 3, 22, 2);
        due("by three", z.mirrors(0, 9, 1, 0), NONE);
        OneWindow next = new OneWindow();
        next.window(0, 26);
        next.cell(8, 1);
        next.cell(27, 1);
        mirrored(next, 0, 9, 5, 14, 2, 15, 2);
        OneWindow corner = new OneWindow();
        corner.window(0, 12);
        corner.cell(8, 1);
        corner.cell(13, 1);
        mirrored(corner, 0, 9, 3, 0, 2, 3, 3);
    }

    private static void mirrorsWhere() {
        Due.part("promise 26, where they may stand");
        OneWindow x = new OneWindow();
        x.window(0, 14);
        x.cell(8, 1);
        mirrored(x, 0, 9, 7, 15, 2);
        x.cell(8, 3);
        mirrored(x, 0, 9, 7, 15, 2);
        x.cell(8, 2);
        mirrored(x, 0, 9, 7);
        mirrored(x, 0, 5, 4, 11, 2);
        x.cell(11, 1);
        mirrored(x, 0, 5, 4, 3, 2, 9, 2);
    }

    private static void whose() {
        Due.part("promise 27");
        OneWindow x = new OneWindow();
        due("of nobody, no windows", x.whose(0), 0);
        due("whose(1)", x.whose(1), BEYOND);
        x.window(0, 0);
        x.window(0, 2);
        x.window(0, 35);
        x.window(39, 35);
        due("of nobody", x.whose(0), 15);
        x.person(1, 8);
        x.person(30, 4);
        x.person(30, 5);
        due("whose(0)", x.whose(0), 0);
        due("whose(1)", x.whose(1), 2);
        due("whose(3)", x.whose(3), 1);
        due("whose(2)", x.whose(2), 4);
        due("whose(6)", x.whose(6), 8);
        due("whose(7)", x.whose(7), 0);
        due("whose(8)", x.whose(8), BEYOND);
        due("whose(-1)", x.whose(-1), BEYOND);
        due("whose(MIN)", x.whose(Integer.MIN_VALUE), BEYOND);
        for (int p = 3; p < 10; p++) {
            x.person(14, 1);
        }
        due("of ten", x.whose(1023), 0);
        due("of eleven", x.whose(1024), BEYOND);
        due("as it was", x.count(0), 0);
    }
}
