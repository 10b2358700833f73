/**
 * All that an object shows, as a text, in parts, since a look uses the object up: calls that answer what
 * there is come first, then calls that change it while they show it.
 */
final class Look {
    static final int PARTS = 3;
    /** So many calls at most does a look make. */
    static final int CALLS = 330;

    private final OneWindow x;
    private final StringBuilder seen = new StringBuilder();
    private int calls;

    private Look(OneWindow x) {
        this.x = x;
    }

    static String at(OneWindow x, int part) {
        Look look = new Look(x);
        if (part == 0) {
            look.village();
        } else if (part == 1) {
            look.trace();
            look.tape();
            look.sheets();
        } else {
            look.image();
        }
        Due.due("a look makes " + CALLS + " calls at most, this made " + look.calls, look.calls <= CALLS);
        return look.seen.toString();
    }

    static int[] toldBy(OneWindow x) {
        int[] told = new int[6];
        for (int k = 1; k <= 5; k++) {
            told[k] = x.told(k);
        }
        return told;
    }

    private void see(String what, int answer) {
        calls++;
        seen.append(what).append(' ').append(answer).append("; ");
    }

    private void village() {
        for (int what = 0; what <= 10; what++) {
            if (what != 9) {
                see("count " + what, x.count(what));
            }
        }
        int windows = x.count(1);
        int people = x.count(2);
        for (int w = 0; w < windows; w++) {
            for (int what = 0; what <= 5; what++) {
                see("window " + w + " " + what, x.ofWindow(w, what));
            }
            see("met " + w, x.met(w));
        }
        for (int p = 0; p < people; p++) {
            for (int what = 0; what <= 4; what++) {
                see("person " + p + " " + what, x.ofPerson(p, what));
            }
            see("then 12 " + p, x.then(12, p, 3));
        }
        laws();
        see("check", x.check());
        for (int night = 0; night < 12; night++) {
            see("lit", x.lit());
            see("nights", x.nights(1));
        }
        see("text 1", x.text(1));
        laws();
        for (int c = 0; c < 36; c++) {
            see("cell " + c, x.cell(c, 0));
        }
        see("fog", x.set(0, 0));
        see("rent", x.set(1, 0));
    }

    private void laws() {
        for (int use = 0; use < 2; use++) {
            see("law " + use, x.law(use, 3, 1, 20, 2));
            see("law " + use, x.law(use, 7, 15, 4, 8));
        }
    }

    private void trace() {
        int bodies = x.count(9);
        see("bodies", bodies);
        for (int i = 0; i < bodies; i++) {
            see("trace " + i, x.trace(i));
        }
    }

    private void tape() {
        see("text 0", x.text(0));
        laws();
    }

    /** Calls that may be refused come last: behind a refused one it could be too late to look. */
    private void sheets() {
        for (int s = 0; s < 4; s++) {
            int came = x.cells(s);
            see("came from sheet " + s, came);
            for (int c = 0; c < came; c++) {
                see("number " + c, x.cell(c, 0));
            }
        }
        for (int a = 0; a < 4; a++) {
            for (int b = a + 1; b < 4; b++) {
                see("alike " + a + " " + b, x.move(a, 0, b, 0, 0));
            }
        }
        for (int s = 0; s < 4; s++) {
            int size = sizeOf(s);
            see("size of sheet " + s, size);
            if (size > 0) {
                others(s, size);
                width(s);
            }
        }
    }

    private int sizeOf(int s) {
        int size = x.cells(s) == Due.NONE ? 0 : 40;
        while (size > 0 && x.move(s, 0, s, 0, size) != size) {
            size--;
            calls++;
        }
        return size;
    }

    /** Where there are numbers of other than 0 to 3, and those behind the 36th. */
    private void others(int s, int size) {
        int came = x.cells(s);
        for (int other = 0; other < 5 && came < Math.min(36, size); other++) {
            see("no cell at", came);
            calls++;
            x.put(s, came, 0);
            came = x.cells(s);
        }
        see("came", came);
        if (size > 36) {
            see("the rest", x.move(s, 36, s, 0, size - 36));
            see("cells", x.cells(s));
            for (int c = 0; c < size - 36; c++) {
                see("number " + (36 + c), x.cell(c, 0));
            }
        }
    }

    private void width(int s) {
        see("put", x.put(s, 0, 65793));
        see("of 8 bits", x.cells(s));
        see("put", x.put(s, 0, 65537));
        see("of 8 or 16 bits", x.cells(s));
    }

    private void image() {
        int night = x.restore();
        see("restore", night);
        if (night != Due.NONE) {
            village();
        }
        see("image", x.image());
    }
}
