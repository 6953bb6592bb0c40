import com.sun.management.ThreadMXBean;
import java.lang.management.ManagementFactory;

/** What an object and its 512 calls make is small: rows are made once, in the constructor, and used again. */
public final class RoomTest {

    private static final long BYTES_AN_OBJECT = 120_000;
    private static final long BYTES_A_RUN = 60_000;

    private static final ThreadMXBean BEAN = (ThreadMXBean) ManagementFactory.getThreadMXBean();

    private static YearRope fullShed() {
        YearRope x = Check.shed(
                "yarn 30 long 200 rot 0 reign 0;yarn 29 long 200 rot 0 reign 1;yarn 28 long 200 rot 0 reign 2;"
                        + "yarn 27 long 200 rot 0 reign 3;yarn 26 long 200 rot 0 reign 4;yarn 25 long 200 rot 0 reign 5;"
                        + "yarn 24 long 200 rot 0 reign 0;yarn 23 long 200 rot 0 reign 1;yarn 22 long 200 rot 0 reign 2;"
                        + "yarn 21 long 200 rot 0 reign 3;gale 10;damp 10",
                "rope 0 1 2 long 50;rope 1 2 3 long 50;rope 2 3 4 long 50;rope 3 4 5 long 50;rope 4 5 6 long 50;"
                        + "rope 5 6 7 long 50;rope 6 7 8 long 50;rope 7 8 9 long 50",
                "order 9 long 1 pay 1;order 9 long 2 pay 2;order 9 long 3 pay 3;order 9 long 4 pay 4;order 9 long 5 pay 5;"
                        + "order 9 long 6 pay 6;order 9 long 7 pay 7;order 9 long 8 pay 8");
        Check.law(x, "bear 1 if ((((((weak+strong+rot+tar<worn+long+plies+load or winter)))))) and not whipped;wear 1");
        return x;
    }

    private static void askAll(YearRope x) {
        for (int i = 0; i < 10; i++) {
            x.best(1);
            x.cheapest(i % 8);
            x.can(true);
            x.can(false);
            x.most(true);
            x.cuts(i % 8, false);
            x.walks(5);
            x.oakum(75, 0, 2);
            x.holds(i % 8, true);
            x.would(i % 8, 1);
            x.fewest();
            x.buys(9999);
            x.lasts(1);
            x.trial(40, false);
            x.span(40, true);
            x.led(i, true);
            x.tar(i % 8);
            x.hang(i % 8, 5);
            x.seasons(1);
            x.undo();
            x.image();
            x.back();
            x.feed(0x20202020, 0x20202020, 0x20202020, 0x20202020, 0x20202020);
            x.law();
            x.walks(3);
        }
    }

    public static void main(String[] args) {
        Check check = new Check("RoomTest");
        askAll(fullShed());
        long thread = Thread.currentThread().getId();
        long start = BEAN.getThreadAllocatedBytes(thread);
        YearRope made = new YearRope();
        long object = BEAN.getThreadAllocatedBytes(thread) - start;
        check.due("a new object makes " + object + " bytes", true, () -> object < BYTES_AN_OBJECT && made.fault() == -1);
        YearRope x = fullShed();
        long before = BEAN.getThreadAllocatedBytes(thread);
        askAll(x);
        long run = BEAN.getThreadAllocatedBytes(thread) - before;
        check.due("250 calls make " + run + " bytes", true, () -> run < BYTES_A_RUN);
        check.end();
    }
}
