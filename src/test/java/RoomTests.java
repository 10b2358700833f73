import java.lang.management.ManagementFactory;

/** One room for all calls: what a run of 512 calls makes is counted, for the dearest calls too. */
public final class RoomTests {
    private static final com.sun.management.ThreadMXBean BEAN =
        (com.sun.management.ThreadMXBean) ManagementFactory.getThreadMXBean();
    /** Far below 600,000 objects and 7.3 million elements, however they are counted. */
    private static final long MOST_BYTES = 100_000;
    private static final int CALLS = 512;
    private static int sink;

    private RoomTests() {
    }

    public static void main(String[] args) {
        Due.part("room");
        for (int which = 0; which < 24; which++) {
            run(which);
        }
        for (int which = 0; which < 24; which++) {
            long before = BEAN.getThreadAllocatedBytes(Thread.currentThread().getId());
            run(which);
            long made = BEAN.getThreadAllocatedBytes(Thread.currentThread().getId()) - before;
            Due.due("512 calls of kind " + which + " made " + made + " bytes, little", made < MOST_BYTES);
        }
        Due.due("sink", sink != 12345);
        Due.finish("RoomTests");
    }

    private static void run(int which) {
        OneWindow x = new OneWindow();
        for (int w = 0; w < 6; w++) {
            x.window(39 - 10 * (w % 3), 7 * w);
            x.turn(w);
        }
        for (int p = 0; p < 10; p++) {
            x.person(35 - 3 * p, 1 + p);
        }
        Due.write(x, 0, "d+f+(l>4&s<3|!l)");
        Due.write(x, 1, "n+r%3-(e>4)+(t%2=1)");
        for (int i = 0; i < CALLS - 40; i++) {
            sink += call(x, which, i);
        }
    }

    private static int call(OneWindow x, int which, int i) {
        switch (which) {
            case 0: return x.nights(100);
            case 1: return x.loose(20);
            case 2: return x.then(100, i % 10, 4);
            case 3: return x.thenEggs(100, i % 6);
            case 4: return x.order(i % 7 - 1);
            case 5: return x.mirrors(i % 6, i % 36, 12, i % 5);
            case 6: return x.whose(i);
            case 7: return x.curtain(i % 6, i % 36);
            case 8: return x.seat(i % 6);
            case 9: return x.become(i % 6, i % 70);
            case 10: return x.voice(i % 6, i % 4, i);
            case 11: return x.image();
            case 12: return x.image() + x.restore();
            case 13: return x.tell(i) + (i % 20 == 0 ? x.check() : 0);
            case 14: return x.sheet(i % 4, 8, 40);
            case 15: return x.move(0, 0, 0, 1, 9);
            case 16: return x.cells(i % 4);
            case 17: return x.judge(i % 4, i % 6);
            case 18: return x.feed(0x2b312b312b312b31L, 8) + (i % 3 == 0 ? x.text(0) : 0);
            case 19: return x.law(i % 2, i, i, i, i);
            case 20: return x.met(i % 6);
            case 21: return x.light(i % 6, i % 36);
            case 22: return x.ofWindow(i % 6, 6);
            default: return x.count(i % 12) + x.told(i % 7);
        }
    }
}
