import java.lang.management.ManagementFactory;

/**
 * What a run makes is never given back in the one room of a run: some 600,000 objects, 7.3 million elements. Bytes
 * stand for both here: a run that makes fewer bytes than its least share of either can't have made too many.
 */
public final class RoomTest {
    private static final int CALLS = 512;
    private static final long MOST_BYTES = 2000000;

    public static void main(String[] args) {
        Checks checks = new Checks("RoomTest");
        com.sun.management.ThreadMXBean bean =
            (com.sun.management.ThreadMXBean) ManagementFactory.getThreadMXBean();
        for (int kind = 0; kind < 12; kind++) {
            run(kind);
            long before = bean.getThreadAllocatedBytes(Thread.currentThread().getId());
            run(kind);
            long made = bean.getThreadAllocatedBytes(Thread.currentThread().getId()) - before;
            checks.isSo("kind " + kind + " makes " + made + " bytes", made < MOST_BYTES);
        }
        checks.close();
    }

    private static void run(int kind) {
        SoleGuest x = new SoleGuest();
        int calls = 0;
        for (int h = 0; h < 5; h++) {
            x.host(h);
        }
        for (int g = 0; g < 6; g++) {
            x.guest(g);
        }
        for (calls = 11; calls < CALLS; calls++) {
            if (calls % 2 == 0) {
                x.base(calls % 5, calls % 6, calls % 90);
            } else {
                call(x, kind, calls);
            }
        }
    }

    private static void call(SoleGuest x, int kind, int i) {
        switch (kind) {
            case 0:
                x.steady();
                break;
            case 1:
                x.most(1);
                break;
            case 2:
                x.breaker();
                break;
            case 3:
                x.rounds(0);
                break;
            case 4:
                x.alike(1);
                break;
            case 5:
                x.restless();
                break;
            case 6:
                x.manner(i % 5, i % 6);
                x.year(i, 40);
                break;
            case 7:
                x.image(i & 1);
                x.back(i & 1);
                break;
            case 8:
                // "bars;bars;bars;bars;", so that many a law is read and given up again
                x.feed(0x62617273, 0x3b626172, 0x733b6261, 0x72733b62, 0x6172733b);
                x.law();
                break;
            case 9:
                x.image(0);
                x.feed(0x62617273, 0x20202020, 0x20202020, 0x20202020, 0x20202020);
                x.law();
                x.back(0);
                break;
            case 10:
                x.steadyOf(i % 3, i % 5);
                break;
            default:
                x.mean(SoleGuest.NONE);
        }
    }
}
