import com.sun.management.ThreadMXBean;
import java.lang.management.ManagementFactory;
import java.util.Random;

/** No call makes an object, and the dearest calls end soon; no arguments make the machine throw. */
public final class RoomTest {
    private static final Due DUE = new Due("RoomTest");

    public static void main(String[] args) {
        room();
        dearest();
        anything();
        DUE.end();
    }

    private static YearFigures full() {
        YearFigures x = Due.office(6, 6);
        for (int r = 0; r < 20; r++) {
            x.record(r, r % 2, 30, r % 3, 1);
        }
        for (int f = 0; f < 6; f++) {
            x.figure(f, 9999);
        }
        x.staff(9999);
        Due.law(x, "n1(1=2);".repeat(5) + "k1(1=2);".repeat(5) + "d5(1=1);n[c+f]*a%7+s%5+m(1=1);k[[a+1]*[s+2]]%3*0(p>1&t>1|c=9)");
        for (int d = 0; d < 6; d++) {
            Due.definition(x, d, "(" + "g>1&".repeat(10) + "h=" + d % 3 + ")");
        }
        return x;
    }

    private static void all(YearFigures x) {
        x.months(3);
        x.tried(60, 0);
        for (int i = 0; i < 4; i++) {
            x.figureIs(i, 3);
            x.share(i, 999, i);
            x.loses(i, 0);
            x.breaks(999, i);
            x.bled(i, 2);
            x.halves(i);
            x.joined(i, 0);
            x.window(1, 3 + i, 0);
            x.middle(1, i);
            x.rising(i, 100);
            x.published(i, 0);
            x.inARow(i);
        }
        x.regions(100);
        x.table(15, 7, 50, 0);
        x.canComeOut(1);
        x.spaced(12, 60, 2);
        x.keep();
        x.undo();
        x.feed(1848715313, 1026631995, 1681205297, 1026631995, 2015913533);
        x.check(0, 6);
        x.feed(1848715313, 1026631995, 1681205297, 1026631995, 2015913533);
        x.definition(0, 20);
        x.feed(1630546737, 996225067, 825975088, 724646753, 808137019);
        x.report(19);
    }

    private static void room() {
        ThreadMXBean threads = (ThreadMXBean) ManagementFactory.getThreadMXBean();
        long self = Thread.currentThread().getId();
        YearFigures x = full();
        all(x);
        long before = threads.getThreadAllocatedBytes(self);
        for (int i = 0; i < 10; i++) {
            all(x);
        }
        long made = threads.getThreadAllocatedBytes(self) - before;
        DUE.is("bytes made by calls: " + made, made < 4000, true);
        long start = threads.getThreadAllocatedBytes(self);
        YearFigures y = new YearFigures();
        long one = threads.getThreadAllocatedBytes(self) - start;
        DUE.is("bytes of an object: " + one, one < 30000 && y.count(9) == 1, true);
    }

    private static void dearest() {
        YearFigures x = full();
        long start = System.nanoTime();
        for (int i = 0; i < 60; i++) {
            x.tried(60, 0);
            x.canComeOut(0);
            x.table(15, 7, 49, 0);
        }
        DUE.is("180 of the dearest calls in 60 seconds", System.nanoTime() - start < 60000000000L, true);
    }

    /** Whatever is thrown ends the test. */
    private static void anything() {
        for (int run = 0; run < 300; run++) {
            Random random = new Random(run);
            YearFigures x = run % 2 == 0 ? full() : new YearFigures();
            for (int i = 0; i < 60; i++) {
                int[] a = new int[5];
                for (int j = 0; j < 5; j++) {
                    int kind = random.nextInt(6);
                    a[j] = kind == 0 ? random.nextInt() : kind == 1 ? Integer.MIN_VALUE : kind == 2 ? Integer.MAX_VALUE
                        : random.nextInt(kind == 3 ? 260 : 24) - 2;
                }
                anyOf(x, a);
            }
        }
        DUE.is("nothing was thrown", true, true);
    }

    private static void anyOf(YearFigures x, int[] a) {
        x.county(a[0], a[1]);
        x.next(a[0], a[1], a[2] > 0);
        x.figure(a[0], a[1]);
        x.staff(a[0]);
        x.feed(a[0], a[1], a[2], a[3], a[4]);
        x.law(a[0]);
        x.report(a[1]);
        x.months(a[0] % 30);
        x.tried(a[0] % 30, a[1]);
        x.counted(a[0], a[1]);
        x.figureIs(a[0], a[1]);
        x.share(a[0], a[1], a[2]);
        x.loses(a[0], a[1]);
        x.breaks(a[0], a[1]);
        x.regions(a[0]);
        x.table(a[0], a[1], a[2], a[3]);
        x.bled(a[0], a[1]);
        x.canComeOut(a[0]);
        x.record(a[0], a[1], a[2], a[3], a[4]);
        x.definition(a[0], a[1]);
        x.fallsUnder(a[0]);
        x.joined(a[0], a[1]);
        x.window(a[0], a[1], a[2]);
        x.middle(a[0], a[1]);
        x.published(a[0], a[1]);
        x.inARow(a[0]);
        x.halves(a[0]);
        x.rising(a[0], a[1]);
        x.spaced(a[0], a[1], a[2]);
        x.seed(a[0]);
        x.keep();
        x.undo();
        x.check(a[0], a[1]);
        x.count(a[0]);
    }
}
