import java.util.Arrays;

/**
 * A village that lights one window each night, by turns; whose light reaches whom, what they pay
 * for it, and what would be if. ERRORS are answers below LOW; see the document's promises.
 */
public final class OneWindow {
    private static final int LOW = -1000000000;
    private static final int BEYOND = 1;
    private static final int NONE = 2;
    private static final int STATE = 3;
    private static final int FULL = 4;
    private static final int KIND = 5;
    private static final int ERRORS = 5;

    private static final int SIDE = 6;
    private static final int CELLS = 36;
    private static final int YARD = 0;
    private static final int WALL = 1;
    private static final int RISING = 2;
    private static final int FALLING = 3;

    private static final int WINDOWS = 6;
    private static final int KINDS = 7;
    private static final int PEOPLE = 10;
    private static final int TURNS = 12;
    private static final int TAPE = 50;
    private static final int WAITS = 20;
    private static final int TRACE = 40;
    private static final int USES = 2;
    private static final int SHEETS = 4;
    private static final int SHEET = 40;

    private static final int LAST_NIGHT = 9999;
    private static final int MOST_NIGHTS = 100;
    private static final int MOST_READ = 9999;
    private static final int MOST_EGGS = 9999;
    private static final int MOST_WINDOW_EGGS = 99999;
    private static final int MOST_NEED = 20;
    private static final int FIRST_EGGS = 20;

    private final Row begun = new Row(TRACE);
    private final Village now = new Village(begun);
    private final Village kept = new Village(begun);
    private final Village ahead = new Village(begun);
    private final Rays rays = new Rays();
    private final Row[] sheets = new Row[SHEETS];
    private final int[] bitsOfSheet = new int[SHEETS];
    private final int[] errors = new int[ERRORS + 1];
    private int images;

    /** How many each WINDOW (by sixes) meets on each of the nights to come. */
    private final int[] metOnNight = new int[WINDOWS * WINDOWS];
    /** The most that are met from then on, when just the windows of a set (by bits) were lit. */
    private final int[] mostBehind = new int[1 << WINDOWS];

    private final Row foundMirrors = new Row(4);
    /** Which cells are lit (by bits), when one mirror stands: by twos for each cell. */
    private final long[] litWithMirror = new long[2 * CELLS];

    public OneWindow() {
        for (int s = 0; s < SHEETS; s++) {
            sheets[s] = new Row(SHEET);
        }
    }

    // ---- the village

    public int cell(int cell, int v) {
        if (!isCell(cell) || v < YARD || v > FALLING) {
            return error(BEYOND);
        }
        int was = now.ground[cell];
        now.ground[cell] = v;
        return was;
    }

    public int set(int what, int v) {
        if (what < 0 || what > 1 || v < 0 || v > 9) {
            return error(BEYOND);
        }
        int was;
        if (what == 0) {
            was = now.fog;
            now.fog = v;
        } else {
            was = now.rent;
            now.rent = v;
        }
        return was;
    }

    public int window(int km, int cell) {
        if (!isLamp(km) || !isCell(cell)) {
            return error(BEYOND);
        }
        if (now.windows >= WINDOWS) {
            return error(FULL);
        }
        int number = now.windows;
        now.lamps[number] = lampOf(km, number, begun);
        now.places[number] = cell;
        now.gains[number] = 0;
        now.windows++;
        return number;
    }

    public int ofWindow(int window, int what) {
        if (!isWindow(window) || what < 0 || what > 6) {
            return error(BEYOND);
        }
        switch (what) {
            case 0:
                return now.lamps[window].kind();
            case 1:
                return now.lamps[window].m;
            case 2:
                return now.places[window];
            case 3:
                return now.gains[window];
            case 4:
                return Math.max(0, now.lamps[window].glows(now.night));
            case 5:
                return now.lamps[window].dims();
            default:
                return Integer.bitCount(now.metBy(window, now.night, rays));
        }
    }

    public int become(int window, int km) {
        if (!isWindow(window) || !isLamp(km)) {
            return error(BEYOND);
        }
        int was = now.lamps[window].kind();
        now.lamps[window] = lampOf(km, window, begun);
        return was;
    }

    public int as(int window, int kind) {
        if (!isWindow(window) || kind < 0 || kind >= KINDS) {
            return error(BEYOND);
        }
        if (!now.lamps[window].isOf(kind)) {
            return error(KIND);
        }
        return now.lamps[window].m;
    }

    public int light(int window, int cell) {
        if (!isWindow(window) || !isCell(cell)) {
            return error(BEYOND);
        }
        rays.cast(now, window, now.night);
        return rays.lightIn(cell);
    }

    // ---- people, turns

    public int person(int cell, int need) {
        if (!isCell(cell) || need < 1 || need > MOST_NEED) {
            return error(BEYOND);
        }
        if (now.people >= PEOPLE) {
            return error(FULL);
        }
        int number = now.people;
        now.seats[number] = cell;
        now.needs[number] = need;
        now.eggs[number] = FIRST_EGGS;
        now.reads[number] = 0;
        now.people++;
        return number;
    }

    public int ofPerson(int person, int what) {
        if (!isPerson(person) || what < 0 || what > 4) {
            return error(BEYOND);
        }
        return now.factOf(person, what);
    }

    public int change(int person, int what, int v) {
        if (!isPerson(person) || !fitsPerson(what, v)) {
            return error(BEYOND);
        }
        int was = now.factOf(person, what);
        if (what == 0) {
            now.seats[person] = v;
        } else if (what == 1) {
            now.needs[person] = v;
        } else {
            now.eggs[person] = v;
        }
        return was;
    }

    public int met(int window) {
        if (!isWindow(window)) {
            return error(BEYOND);
        }
        return now.metBy(window, now.night, rays);
    }

    public int turn(int window) {
        if (!isWindow(window)) {
            return error(BEYOND);
        }
        if (!now.turns.add(window)) {
            return error(FULL);
        }
        return now.turns.size;
    }

    public int clear() {
        int were = now.turns.size;
        now.turns.empty();
        return were;
    }

    public int lit() {
        int window = now.litTonight();
        return window < 0 ? error(NONE) : window;
    }

    // ---- texts

    public int feed(long word, int n) {
        if (n < 1 || n > 8) {
            return error(BEYOND);
        }
        if (now.tape.size + n > TAPE) {
            return error(FULL);
        }
        for (int i = 0; i < n; i++) {
            now.tape.add((int) (word >>> (8 * i)) & 255);
        }
        return now.tape.size;
    }

    public int text(int use) {
        if (!isUse(use)) {
            return error(BEYOND);
        }
        int fault = now.laws[use].read(now.tape);
        now.tape.empty();
        return fault < 0 ? 1 : -10 - fault;
    }

    public int law(int use, int a, int b, int c, int d) {
        if (!isUse(use)) {
            return error(BEYOND);
        }
        return now.laws[use].gives(a, b, c, d);
    }

    // ---- nights

    public int nights(int n) {
        return passNights(n, false);
    }

    public int loose(int n) {
        return passNights(n, true);
    }

    public int then(int n, int person, int what) {
        if (!isAhead(n) || !isPerson(person) || what < 0 || what > 4) {
            return error(BEYOND);
        }
        lookAhead(n);
        return ahead.factOf(person, what);
    }

    public int thenEggs(int n, int window) {
        if (!isAhead(n) || !isWindow(window)) {
            return error(BEYOND);
        }
        lookAhead(n);
        return ahead.gains[window];
    }

    // ---- what would be

    public int order(int what) {
        if (what < -1 || what >= WINDOWS) {
            return error(BEYOND);
        }
        if (what >= now.windows) {
            return error(NONE);
        }
        weighOrders();
        return what < 0 ? mostBehind[0] : windowInOrder(what);
    }

    public int seat(int window) {
        if (!isWindow(window)) {
            return error(BEYOND);
        }
        rays.cast(now, window, now.night);
        int best = -1;
        for (int c = 0; c < CELLS; c++) {
            if (now.ground[c] == YARD && (best < 0 || rays.lightIn(c) > rays.lightIn(best))) {
                best = c;
            }
        }
        return best < 0 ? error(NONE) : best;
    }

    public int curtain(int window, int cell) {
        if (!isWindow(window) || !isCell(cell)) {
            return error(BEYOND);
        }
        if (now.ground[cell] != YARD) {
            return error(STATE);
        }
        int open = now.metBy(window, now.night, rays);
        now.ground[cell] = WALL;
        int drawn = now.metBy(window, now.night, rays);
        now.ground[cell] = YARD;
        return Integer.bitCount(open) - Integer.bitCount(drawn);
    }

    public int mirrors(int window, int cell, int x, int what) {
        if (!isWindow(window) || !isCell(cell) || x < 1 || x > 99 || what < 0 || what > 4) {
            return error(BEYOND);
        }
        if (!findMirrors(window, cell, x)) {
            return error(NONE);
        }
        if (what == 0) {
            return foundMirrors.size / 2;
        }
        return what > foundMirrors.size ? error(NONE) : foundMirrors.at(what - 1);
    }

    public int whose(int set) {
        if (set < 0 || set >= 1 << now.people) {
            return error(BEYOND);
        }
        int bits = 0;
        for (int w = 0; w < now.windows; w++) {
            if (now.metBy(w, now.night, rays) == set) {
                bits |= 1 << w;
            }
        }
        return bits;
    }

    // ---- draws, voices, sheets, images, what is told

    public int seed(int v) {
        int was = now.z;
        now.z = v;
        return was;
    }

    public int voice(int window, int act, int x) {
        if (!isWindow(window) || act < 0 || act > 3) {
            return error(BEYOND);
        }
        begun.empty();
        Lamp lamp = now.lamps[window];
        switch (act) {
            case 0:
                return lamp.burns(x);
            case 1:
                return lamp.shines(x);
            case 2:
                return lamp.fades(x);
            default:
                return lamp.tells(x);
        }
    }

    public int trace(int i) {
        return begun.has(i) ? begun.at(i) : error(NONE);
    }

    public int sheet(int sheet, int bits, int n) {
        if (!isSheet(sheet) || bits != 0 && bits != 8 && bits != 16 && bits != 32) {
            return error(BEYOND);
        }
        if (bits != 0 && n < 0) {
            return error(STATE);
        }
        if (bits != 0 && n > SHEET) {
            return error(BEYOND);
        }
        bitsOfSheet[sheet] = bits;
        sheets[sheet].beZeros(bits == 0 ? 0 : n);
        return 1;
    }

    public int put(int sheet, int i, int v) {
        if (!isSheet(sheet)) {
            return error(BEYOND);
        }
        if (isMissing(sheet)) {
            return error(NONE);
        }
        if (!sheets[sheet].has(i)) {
            return error(BEYOND);
        }
        int spare = 32 - bitsOfSheet[sheet];
        sheets[sheet].replace(i, v << spare >>> spare);
        return 1;
    }

    public int move(int sheet, int i, int other, int j, int n) {
        if (!isSheet(sheet) || !isSheet(other)) {
            return error(BEYOND);
        }
        if (isMissing(sheet) || isMissing(other)) {
            return error(NONE);
        }
        if (bitsOfSheet[sheet] != bitsOfSheet[other]) {
            return error(KIND);
        }
        if (!sheets[sheet].hasSpan(i, n) || !sheets[other].hasSpan(j, n)) {
            return error(BEYOND);
        }
        sheets[other].take(j, sheets[sheet], i, n);
        return n;
    }

    public int cells(int sheet) {
        if (!isSheet(sheet)) {
            return error(BEYOND);
        }
        if (isMissing(sheet)) {
            return error(NONE);
        }
        Row row = sheets[sheet];
        int most = Math.min(row.size, CELLS);
        int came = 0;
        while (came < most && row.at(came) >= YARD && row.at(came) <= FALLING) {
            now.ground[came] = row.at(came);
            came++;
        }
        return came;
    }

    public int judge(int sheet, int window) {
        if (!isSheet(sheet) || !isWindow(window)) {
            return error(BEYOND);
        }
        if (isMissing(sheet)) {
            return error(NONE);
        }
        rays.cast(now, window, now.night);
        Row row = sheets[sheet];
        int most = Math.min(row.size, CELLS);
        int right = 0;
        while (right < most && row.at(right) == rays.lightIn(right)) {
            right++;
        }
        return right;
    }

    public int image() {
        kept.copy(now);
        images++;
        return images;
    }

    public int restore() {
        if (images == 0) {
            return error(NONE);
        }
        now.copy(kept);
        return now.night;
    }

    public int tell(int v) {
        if (!now.waits.add(v)) {
            return error(FULL);
        }
        return now.waits.size;
    }

    public int check() {
        ahead.copy(now);
        now.waits.empty();
        for (int i = 0; i < ahead.waits.size; i++) {
            ahead.passNight(rays);
            if (ahead.readOfAll() != ahead.waits.at(i)) {
                return 1 + i;
            }
        }
        return 0;
    }

    public int count(int what) {
        switch (what) {
            case 0:
                return now.night;
            case 1:
                return now.windows;
            case 2:
                return now.people;
            case 3:
                return now.turns.size;
            case 4:
                return now.readOfAll();
            case 5:
                return now.eggsOfAll();
            case 6:
                return now.fog;
            case 7:
                return now.tape.size;
            case 8:
                return now.waits.size;
            case 9:
                return begun.size;
            case 10:
                return now.z;
            default:
                return error(BEYOND);
        }
    }

    public int told(int k) {
        if (k < 1 || k > ERRORS) {
            return error(BEYOND);
        }
        return errors[k];
    }

    // ---- what the calls are made of

    private int error(int which) {
        if (which >= 1 && which <= ERRORS) {
            errors[which]++;
        }
        return LOW - which;
    }

    private static boolean isCell(int cell) {
        return cell >= 0 && cell < CELLS;
    }

    private static boolean isLamp(int km) {
        return km >= 0 && km < 10 * KINDS;
    }

    private static boolean isUse(int use) {
        return use >= 0 && use < USES;
    }

    private static boolean isAhead(int n) {
        return n >= 0 && n <= MOST_NIGHTS;
    }

    private static boolean isSheet(int sheet) {
        return sheet >= 0 && sheet < SHEETS;
    }

    private boolean isMissing(int sheet) {
        return bitsOfSheet[sheet] == 0;
    }

    private boolean isWindow(int window) {
        return window >= 0 && window < now.windows;
    }

    private boolean isPerson(int person) {
        return person >= 0 && person < now.people;
    }

    private static boolean fitsPerson(int what, int v) {
        switch (what) {
            case 0:
                return isCell(v);
            case 1:
                return v >= 1 && v <= MOST_NEED;
            case 2:
                return v >= 0 && v <= MOST_EGGS;
            default:
                return false;
        }
    }

    private static Lamp lampOf(int km, int n, Row begun) {
        int m = km % 10;
        switch (km / 10) {
            case 1:
                return new Weak(n, m, begun);
            case 2:
                return new Coloured(n, m, begun);
            case 3:
                return new Twofold(n, m, begun);
            case 4:
                return new Borrowed(n, m, begun);
            case 5:
                return new Stained(n, m, begun);
            case 6:
                return new Feigned(n, m, begun);
            default:
                return new Lamp(n, m, begun);
        }
    }

    private int passNights(int n, boolean drawn) {
        if (n < 1 || n > MOST_NIGHTS) {
            return error(BEYOND);
        }
        if (now.night + n > LAST_NIGHT) {
            return error(STATE);
        }
        for (int i = 0; i < n; i++) {
            if (drawn) {
                now.drawFog();
            }
            now.passNight(rays);
        }
        return now.readOfAll();
    }

    private void lookAhead(int n) {
        ahead.copy(now);
        for (int i = 0; i < n; i++) {
            ahead.passNight(rays);
        }
    }

    /** From the last night back: the best of what is still to be lit hangs only on what was. */
    private void weighOrders() {
        int windows = now.windows;
        for (int w = 0; w < windows; w++) {
            for (int i = 0; i < windows; i++) {
                metOnNight[w * WINDOWS + i] = Integer.bitCount(now.metBy(w, now.night + i, rays));
            }
        }
        int all = (1 << windows) - 1;
        mostBehind[all] = 0;
        for (int were = all - 1; were >= 0; were--) {
            int most = 0;
            for (int w = 0; w < windows; w++) {
                if ((were >> w & 1) == 0) {
                    most = Math.max(most, metFrom(were, w));
                }
            }
            mostBehind[were] = most;
        }
    }

    private int metFrom(int were, int w) {
        return metOnNight[w * WINDOWS + Integer.bitCount(were)] + mostBehind[were | 1 << w];
    }

    private int windowInOrder(int i) {
        int were = 0;
        int chosen = 0;
        for (int place = 0; place <= i; place++) {
            chosen = 0;
            while (chosen < now.windows - 1 && !isBestNext(were, chosen)) {
                chosen++;
            }
            were |= 1 << chosen;
        }
        return chosen;
    }

    private boolean isBestNext(int were, int w) {
        return (were >> w & 1) == 0 && metFrom(were, w) == mostBehind[were];
    }

    private boolean findMirrors(int window, int cell, int x) {
        foundMirrors.empty();
        rays.cast(now, window, now.night);
        if (rays.lightIn(cell) >= x) {
            return true;
        }
        if (rays.lightIn(now.places[window]) < x) {
            return false;
        }
        return findOneMirror(window, cell, x) || findTwoMirrors(window, cell, x);
    }

    /** A mirror that no ray meets changes nothing, so only cells that are lit are tried. */
    private boolean findOneMirror(int window, int cell, int x) {
        long plain = rays.litCells();
        for (int c = 0; c < CELLS; c++) {
            boolean tried = takesMirror(c, window, cell) && (plain >> c & 1) != 0;
            for (int kind = RISING; kind <= FALLING; kind++) {
                int place = 2 * c + kind - RISING;
                litWithMirror[place] = 0;
                if (!tried) {
                    continue;
                }
                now.ground[c] = kind;
                rays.spread(now.ground, now.places[window]);
                now.ground[c] = YARD;
                litWithMirror[place] = rays.litCells();
                if (rays.lightIn(cell) >= x) {
                    foundMirrors.add(c);
                    foundMirrors.add(kind);
                    return true;
                }
            }
        }
        return false;
    }

    private boolean findTwoMirrors(int window, int cell, int x) {
        for (int first = 0; first < CELLS; first++) {
            if (!takesMirror(first, window, cell)) {
                continue;
            }
            for (int second = first + 1; second < CELLS; second++) {
                if (takesMirror(second, window, cell) && findPair(window, cell, x, first, second)) {
                    return true;
                }
            }
        }
        return false;
    }

    private boolean findPair(int window, int cell, int x, int first, int second) {
        for (int a = RISING; a <= FALLING; a++) {
            for (int b = RISING; b <= FALLING; b++) {
                if (!isLitWith(first, a, second) && !isLitWith(second, b, first)) {
                    continue;
                }
                now.ground[first] = a;
                now.ground[second] = b;
                rays.spread(now.ground, now.places[window]);
                now.ground[first] = YARD;
                now.ground[second] = YARD;
                if (rays.lightIn(cell) >= x) {
                    foundMirrors.add(first);
                    foundMirrors.add(a);
                    foundMirrors.add(second);
                    foundMirrors.add(b);
                    return true;
                }
            }
        }
        return false;
    }

    /** Where one mirror does not do, a ray must go by both: it comes to one by the other. */
    private boolean isLitWith(int mirror, int kind, int other) {
        return (litWithMirror[2 * mirror + kind - RISING] >> other & 1) != 0;
    }

    private boolean takesMirror(int c, int window, int cell) {
        return now.ground[c] == YARD && c != cell && c != now.places[window];
    }

    /** A row of numbers with room for so many; made once and used again. */
    private static final class Row {
        private final int[] numbers;
        private int size;

        Row(int most) {
            numbers = new int[Math.max(0, most)];
        }

        boolean has(int i) {
            return i >= 0 && i < size;
        }

        boolean hasSpan(int i, int n) {
            return i >= 0 && n >= 0 && n <= size && i <= size - n;
        }

        int at(int i) {
            return i >= 0 && i < size ? numbers[i] : 0;
        }

        boolean add(int v) {
            if (size >= numbers.length) {
                return false;
            }
            numbers[size] = v;
            size++;
            return true;
        }

        int last() {
            return at(size - 1);
        }

        int removeLast() {
            int v = at(size - 1);
            size = Math.max(0, size - 1);
            return v;
        }

        void replace(int i, int v) {
            if (has(i)) {
                numbers[i] = v;
            }
        }

        void empty() {
            size = 0;
        }

        void beZeros(int n) {
            size = Math.max(0, Math.min(n, numbers.length));
            Arrays.fill(numbers, 0);
        }

        void take(int j, Row from, int i, int n) {
            if (hasSpan(j, n) && from.hasSpan(i, n)) {
                System.arraycopy(from.numbers, i, numbers, j, n);
            }
        }

        void copy(Row from) {
            size = Math.min(from.size, numbers.length);
            System.arraycopy(from.numbers, 0, numbers, 0, size);
        }
    }

    /** All that an IMAGE keeps; also what a look AHEAD plays with. */
    private static final class Village {
        private final int[] ground = new int[CELLS];
        private int night;
        private int fog;
        private int rent = 1;
        private int z = 1;
        private int windows;
        private final Lamp[] lamps = new Lamp[WINDOWS];
        private final int[] places = new int[WINDOWS];
        private final int[] gains = new int[WINDOWS];
        private int people;
        private final int[] seats = new int[PEOPLE];
        private final int[] needs = new int[PEOPLE];
        private final int[] eggs = new int[PEOPLE];
        private final int[] reads = new int[PEOPLE];
        private final Row turns = new Row(TURNS);
        private final Row tape = new Row(TAPE);
        private final Row waits = new Row(WAITS);
        private final Law[] laws = new Law[USES];

        Village(Row begun) {
            // A lamp everywhere from the start, so that none is ever null.
            for (int w = 0; w < WINDOWS; w++) {
                lamps[w] = new Lamp(w, 0, begun);
            }
            for (int use = 0; use < USES; use++) {
                laws[use] = new Law(use);
            }
        }

        void copy(Village from) {
            System.arraycopy(from.ground, 0, ground, 0, CELLS);
            night = from.night;
            fog = from.fog;
            rent = from.rent;
            z = from.z;
            windows = from.windows;
            for (int w = 0; w < WINDOWS; w++) {
                lamps[w] = from.lamps[w];
            }
            System.arraycopy(from.places, 0, places, 0, WINDOWS);
            System.arraycopy(from.gains, 0, gains, 0, WINDOWS);
            people = from.people;
            System.arraycopy(from.seats, 0, seats, 0, PEOPLE);
            System.arraycopy(from.needs, 0, needs, 0, PEOPLE);
            System.arraycopy(from.eggs, 0, eggs, 0, PEOPLE);
            System.arraycopy(from.reads, 0, reads, 0, PEOPLE);
            turns.copy(from.turns);
            tape.copy(from.tape);
            waits.copy(from.waits);
            for (int use = 0; use < USES; use++) {
                laws[use].copy(from.laws[use]);
            }
        }

        int wantsOf(int person, int night) {
            return laws[1].gives(needs[person], eggs[person], reads[person], night);
        }

        int factOf(int person, int what) {
            switch (what) {
                case 0:
                    return seats[person];
                case 1:
                    return needs[person];
                case 2:
                    return eggs[person];
                case 3:
                    return reads[person];
                default:
                    return wantsOf(person, night);
            }
        }

        int metBy(int window, int night, Rays rays) {
            rays.cast(this, window, night);
            int bits = 0;
            for (int p = 0; p < people; p++) {
                if (rays.lightIn(seats[p]) >= wantsOf(p, night)) {
                    bits |= 1 << p;
                }
            }
            return bits;
        }

        int litTonight() {
            return turns.size == 0 ? -1 : turns.at(night % turns.size);
        }

        /** What one wants hangs on no other's eggs, so all who are met may be told ahead. */
        void passNight(Rays rays) {
            int window = litTonight();
            if (window >= 0) {
                int met = metBy(window, night, rays);
                for (int p = 0; p < people; p++) {
                    if ((met >> p & 1) != 0) {
                        readAndPay(p, window);
                    }
                }
            }
            night++;
        }

        private void readAndPay(int person, int window) {
            int paid = Math.min(rent, eggs[person]);
            reads[person] = Math.min(MOST_READ, reads[person] + 1);
            eggs[person] -= paid;
            gains[window] = Math.min(MOST_WINDOW_EGGS, gains[window] + paid);
        }

        void drawFog() {
            z = z * 1103515245 + 12345;
            fog = (z >>> 8) % 4;
        }

        int readOfAll() {
            int sum = 0;
            for (int p = 0; p < people; p++) {
                sum += reads[p];
            }
            return sum;
        }

        int eggsOfAll() {
            int sum = 0;
            for (int p = 0; p < people; p++) {
                sum += eggs[p];
            }
            for (int w = 0; w < windows; w++) {
                sum += gains[w];
            }
            return sum;
        }
    }

    /** How far light goes. What a ray has hangs on its steps alone, wherever it goes. */
    private static final class Rays {
        private static final int STEPS = 40;
        private static final int WAYS = 4;
        private static final int NORTH = 0;
        private static final int EAST = 1;
        private static final int SOUTH = 2;

        private final int[] left = new int[STEPS + 1];
        private final int[] lights = new int[CELLS];

        /** Lights the village as by that window, lit on that night. */
        void cast(Village village, int window, int night) {
            int dims = village.lamps[window].dims();
            Arrays.fill(left, 0);
            left[0] = Math.max(0, village.lamps[window].glows(night));
            for (int s = 0; s < STEPS && left[s] > 0; s++) {
                left[s + 1] = left[s] - village.laws[0].gives(village.fog, dims, left[s], s);
            }
            spread(village.ground, village.places[window]);
        }

        /** The same light over other ground. */
        void spread(int[] ground, int from) {
            Arrays.fill(lights, 0);
            for (int way = 0; way < WAYS; way++) {
                follow(ground, from, way);
            }
            lights[from] = left[0];
        }

        private void follow(int[] ground, int from, int start) {
            int at = from;
            int way = start;
            for (int s = 1; s <= STEPS && left[s] > 0; s++) {
                at = neighbour(at, way);
                if (at < 0 || ground[at] == WALL) {
                    return;
                }
                lights[at] = Math.max(lights[at], left[s]);
                way = turned(way, ground[at]);
            }
        }

        private static int neighbour(int at, int way) {
            switch (way) {
                case NORTH:
                    return at >= SIDE ? at - SIDE : -1;
                case EAST:
                    return at % SIDE < SIDE - 1 ? at + 1 : -1;
                case SOUTH:
                    return at < CELLS - SIDE ? at + SIDE : -1;
                default:
                    return at % SIDE > 0 ? at - 1 : -1;
            }
        }

        /** The ways stand so that RISING swaps neighbours (0 1, 2 3), FALLING ends (0 3, 1 2). */
        private static int turned(int way, int ground) {
            if (ground == RISING) {
                return way ^ 1;
            }
            return ground == FALLING ? WAYS - 1 - way : way;
        }

        int lightIn(int cell) {
            return isCell(cell) ? lights[cell] : 0;
        }

        long litCells() {
            long bits = 0;
            for (int c = 0; c < CELLS; c++) {
                if (lights[c] > 0) {
                    bits |= 1L << c;
                }
            }
            return bits;
        }
    }

    /** The TEXT of a USE, kept as signs behind what they work on: numbers, names, signs. */
    private static final class Law {
        private static final String FADES_NAMES = "fdls";
        private static final String WANTS_NAMES = "nert";
        private static final int MOST_OPEN = 5;
        private static final int MOST_DIGITS = 4;
        private static final int LEAST = 1;
        private static final int MOST = 99;
        /** Numbers are themselves, names are below 0, and signs stand from here on. */
        private static final int SIGNS = 10000;

        private final int use;
        private final Row code = new Row(TAPE);
        private final int[] stack = new int[TAPE];

        private final Row draft = new Row(TAPE);
        private final Row pending = new Row(TAPE);
        private int open;
        private int depth;
        /** By bits: in how many open ( a comparison already stands in its part. */
        private int compared;

        Law(int use) {
            this.use = use;
        }

        void copy(Law from) {
            code.copy(from.code);
        }

        /** Takes a text in place of the one ahead: -1; or the FAULT, and nothing is taken. */
        int read(Row tape) {
            draft.empty();
            pending.empty();
            open = 0;
            depth = 0;
            compared = 0;
            boolean due = true;
            int at = 0;
            while (at < tape.size) {
                int b = tape.at(at);
                int taken = due ? takeOperand(tape, at) : 0;
                if (taken > 0) {
                    due = false;
                    at += taken;
                } else if (due ? opens(b) : closes(b)) {
                    at++;
                } else if (!due && joins(b)) {
                    due = true;
                    at++;
                } else {
                    return at;
                }
            }
            if (due || depth > 0) {
                return at;
            }
            writeDownTo(0);
            code.copy(draft);
            return -1;
        }

        private int takeOperand(Row tape, int at) {
            int value = 0;
            int digits = 0;
            while (digits < MOST_DIGITS && isDigit(tape, at + digits)) {
                value = 10 * value + tape.at(at + digits) - '0';
                digits++;
            }
            int name = nameOf(tape.at(at));
            if (digits == 0 && name < 0) {
                return 0;
            }
            draft.add(digits > 0 ? value : -1 - name);
            writeNots();
            return Math.max(1, digits);
        }

        private static boolean isDigit(Row tape, int at) {
            return tape.has(at) && tape.at(at) >= '0' && tape.at(at) <= '9';
        }

        private int nameOf(int b) {
            return (use == 0 ? FADES_NAMES : WANTS_NAMES).indexOf((char) b);
        }

        private boolean opens(int b) {
            if (b != '!' && b != '(' || open >= MOST_OPEN) {
                return false;
            }
            pending.add(b);
            open++;
            if (b == '(') {
                depth++;
                compared &= ~(1 << depth);
            }
            return true;
        }

        private boolean closes(int b) {
            if (b != ')' || depth == 0) {
                return false;
            }
            writeDownTo(0);
            pending.removeLast();
            open--;
            depth--;
            writeNots();
            return true;
        }

        private boolean joins(int b) {
            int rank = rankOf(b);
            if (rank == 0) {
                return false;
            }
            int here = 1 << depth;
            if (rank == 3 && (compared & here) != 0) {
                return false;
            }
            if (rank == 3) {
                compared |= here;
            } else if (rank < 3) {
                compared &= ~here;
            }
            writeDownTo(rank);
            pending.add(b);
            return true;
        }

        /** How tightly a sign joins; 0 for any other byte, a ( too, at which writing ends. */
        private static int rankOf(int b) {
            switch (b) {
                case '|':
                    return 1;
                case '&':
                    return 2;
                case '<':
                case '=':
                case '>':
                    return 3;
                case '+':
                case '-':
                    return 4;
                case '*':
                case '/':
                case '%':
                    return 5;
                default:
                    return 0;
            }
        }

        private void writeDownTo(int rank) {
            while (pending.size > 0 && rankOf(pending.last()) >= Math.max(1, rank)) {
                draft.add(SIGNS + pending.removeLast());
            }
        }

        private void writeNots() {
            while (pending.size > 0 && pending.last() == '!') {
                draft.add(SIGNS + pending.removeLast());
                open--;
            }
        }

        /** What it gives with its names as told, held within bounds. */
        int gives(int a, int b, int c, int d) {
            int height = 0;
            for (int i = 0; i < code.size; i++) {
                int token = code.at(i);
                if (token == SIGNS + '!' && height >= 1) {
                    stack[height - 1] = stack[height - 1] == 0 ? 1 : 0;
                } else if (token > SIGNS && height >= 2) {
                    height--;
                    stack[height - 1] = joined(token - SIGNS, stack[height - 1], stack[height]);
                } else if (token < SIGNS && height < stack.length) {
                    stack[height] = token < 0 ? named(-1 - token, a, b, c, d) : token;
                    height++;
                }
            }
            int plain = height > 0 ? stack[0] : withoutText(a, b);
            return Math.max(LEAST, Math.min(MOST, plain));
        }

        private int withoutText(int a, int b) {
            return use == 0 ? a + b : a;
        }

        private static int named(int name, int a, int b, int c, int d) {
            switch (name) {
                case 0:
                    return a;
                case 1:
                    return b;
                case 2:
                    return c;
                default:
                    return d;
            }
        }

        private static int joined(int sign, int x, int y) {
            switch (sign) {
                case '|':
                    return x != 0 || y != 0 ? 1 : 0;
                case '&':
                    return x != 0 && y != 0 ? 1 : 0;
                case '<':
                    return x < y ? 1 : 0;
                case '=':
                    return x == y ? 1 : 0;
                case '>':
                    return x > y ? 1 : 0;
                case '+':
                    return x + y;
                case '-':
                    return x - y;
                case '*':
                    return x * y;
                case '/':
                    return y == 0 ? 0 : x / y;
                default:
                    return y == 0 ? 0 : x % y;
            }
        }
    }

    /** A lamp never changes, so villages may share it. Its voices tell their BODIES as they begin. */
    private static class Lamp {
        final int n;
        final int m;
        final Row begun;

        Lamp(int n, int m, Row begun) {
            this.n = n;
            this.m = m;
            this.begun = begun;
        }

        int kind() {
            return 0;
        }

        boolean isOf(int kind) {
            return kind == 0;
        }

        int glows(int night) {
            return 9 + m;
        }

        int dims() {
            return 1;
        }

        int burns(int x) {
            begun.add(10);
            return x + n;
        }

        int shines(int x) {
            begun.add(11);
            return burns(x) * 2;
        }

        int fades(int x) {
            begun.add(12);
            return x - m;
        }

        int tells(int x) {
            begun.add(13);
            return shines(x) ^ fades(x);
        }
    }

    private static class Weak extends Lamp {
        Weak(int n, int m, Row begun) {
            super(n, m, begun);
        }

        int kind() {
            return 1;
        }

        boolean isOf(int kind) {
            return kind == 1 || super.isOf(kind);
        }

        int glows(int night) {
            return super.glows(night) / 2;
        }

        int shines(int x) {
            begun.add(20);
            return super.shines(x) - fades(1);
        }
    }

    private static class Coloured extends Lamp {
        Coloured(int n, int m, Row begun) {
            super(n, m, begun);
        }

        int kind() {
            return 2;
        }

        boolean isOf(int kind) {
            return kind == 2 || super.isOf(kind);
        }

        int glows(int night) {
            return super.glows(night) - 2;
        }

        int dims() {
            return 2;
        }

        int burns(int x) {
            begun.add(30);
            return super.burns(x) * 3;
        }
    }

    /** DOUBLE, under a name that the library doesn't have. */
    private static class Twofold extends Lamp {
        Twofold(int n, int m, Row begun) {
            super(n, m, begun);
        }

        int kind() {
            return 3;
        }

        boolean isOf(int kind) {
            return kind == 3 || super.isOf(kind);
        }

        int glows(int night) {
            return super.glows(night) + 3;
        }

        int fades(int x) {
            begun.add(40);
            return -super.fades(x);
        }
    }

    private static final class Borrowed extends Weak {
        Borrowed(int n, int m, Row begun) {
            super(n, m, begun);
        }

        int kind() {
            return 4;
        }

        boolean isOf(int kind) {
            return kind == 4 || super.isOf(kind);
        }

        int glows(int night) {
            return night % 2 != 0 ? 0 : super.glows(night);
        }

        int shines(int x) {
            begun.add(50);
            return super.shines(x + 1);
        }
    }

    private static final class Stained extends Coloured {
        Stained(int n, int m, Row begun) {
            super(n, m, begun);
        }

        int kind() {
            return 5;
        }

        boolean isOf(int kind) {
            return kind == 5 || super.isOf(kind);
        }

        int glows(int night) {
            return super.glows(night) - m;
        }

        int dims() {
            return super.dims() + 1;
        }

        int tells(int x) {
            begun.add(60);
            return super.tells(x) - burns(2);
        }
    }

    private static final class Feigned extends Twofold {
        Feigned(int n, int m, Row begun) {
            super(n, m, begun);
        }

        int kind() {
            return 6;
        }

        boolean isOf(int kind) {
            return kind == 6 || super.isOf(kind);
        }

        int glows(int night) {
            return night % 3 == 0 ? 0 : super.glows(night);
        }

        int fades(int x) {
            begun.add(70);
            return super.fades(x) ^ n;
        }

        int tells(int x) {
            begun.add(71);
            return shines(x) - super.tells(x);
        }
    }
}
