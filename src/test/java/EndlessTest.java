import java.lang.management.ManagementFactory;
import java.util.Random;

/** No call throws, whatever it is given in whatever state, and calls make next to nothing. */
public final class EndlessTest {
    private static final Due DUE = new Due("EndlessTest");
    private static final int RUNS = 400;
    private static final long[] FAR = {0, 1, -1, 2, 3, 4, 5, 9, 10, 12, 20, 21, 59, 60, 61, 99, 100, 999, 1000,
        1200, 2000000000, 2000000001, Integer.MAX_VALUE, Integer.MIN_VALUE, Integer.MAX_VALUE - 20};

    public static void main(String[] args) throws Exception {
        anyArguments();
        anyBytes();
        madeByCalls();
        dearest();
        DUE.close();
    }

    private static void anyArguments() throws Exception {
        int thrown = 0;
        for (int run = 0; run < RUNS; run++) {
            Random r = new Random(run);
            LongBoats x = new LongBoats();
            if (run % 8 != 0) {
                Due.tell(x, Texts.some(r));
            }
            for (int i = 0; i < 450; i++) {
                int[] told = {x.count(0), x.count(1), x.count(2)};
                Calls c = Calls.some(r, told);
                for (int k = 0; k < c.arguments.length; k++) {
                    if (r.nextInt(3) == 0) {
                        long v = FAR[r.nextInt(FAR.length)];
                        boolean isLong = c.ofClass.getParameterTypes()[k] == long.class;
                        c.arguments[k] = isLong ? (Object) v : (Object) (int) v;
                    }
                }
                try {
                    c.askClass(x);
                } catch (java.lang.reflect.InvocationTargetException e) {
                    thrown++;
                    System.out.println("EndlessTest: run " + run + " " + c.text() + " threw " + e.getCause());
                }
            }
        }
        DUE.due("calls that threw", thrown, 0);
    }

    private static void anyBytes() {
        for (int run = 0; run < 3000; run++) {
            Random r = new Random(run);
            LongBoats x = new LongBoats();
            int feeds = r.nextInt(61);
            for (int i = 0; i < feeds; i++) {
                x.feed(r.nextInt(), r.nextInt(), r.nextInt(), r.nextInt(), r.nextInt());
            }
            DUE.due("harbour() of any bytes", x.harbour(), feeds == 0 ? 0 : -4);
            DUE.due("its fault", x.fault(0), feeds == 0 ? 0 : 1);
            DUE.due("no HARBOUR", x.count(9), 0);
        }
    }

    private static long allocated() {
        com.sun.management.ThreadMXBean bean =
                (com.sun.management.ThreadMXBean) ManagementFactory.getThreadMXBean();
        return bean.getCurrentThreadAllocatedBytes();
    }

    private static LongBoats fives() {
        StringBuilder s = new StringBuilder("harbour stream 2 gap 3 passes 7;");
        s.append("boat oars 2 slip 4;boat oars 3 slip 4;");
        Random r = new Random(5);
        for (int i = 0; i < 10; i++) {
            s.append("man weight " + (90 + r.nextInt(60)) + " skill " + (8 + r.nextInt(5)) + " quick " + r.nextInt(12)
                    + " tires " + (1 + r.nextInt(3)) + " leans " + r.nextInt(4) + " aims middle;");
        }
        return Due.told(s + "team 0 0 1 2 3 4;team 1 5 6 7 8 9;");
    }

    /** A whole run has room for some 7.3 million numbers: an object and 512 calls take a small part. */
    private static void madeByCalls() {
        fives();
        long before = allocated();
        LongBoats x = new LongBoats();
        long forOne = allocated() - before;
        DUE.due("bytes of a new object above 12,000", forOne > 12000 ? forOne : 0, 0);
        x = fives();
        x.image(0);
        x.image(1);
        x.image(2);
        long sum = 0;
        before = allocated();
        for (int i = 0; i < 64; i++) {
            sum += x.bold(0, 1, 0) + x.sure(1, 0) + x.order(0, 1, 0) + x.pillar(0, 1) + x.wins(0, 1);
            sum += x.ends(0, 1, 0, 1, 2, 0) + x.rests(0, 1, 0, 1) + x.vain(0, 1, 0, 1) + x.even(0, 1, 0, 1, 0);
            sum += x.row(0, 3, 60) + x.paste(0, 0, 0, 1, 59) + x.day(i, 0, 1, 0) + x.image(0) + x.back(0);
            sum += x.years(i, 20, 0, 1, 0, 1, 0) + x.harbour() + x.back(1) + x.judge(1, 2, 0);
        }
        long made = allocated() - before;
        DUE.due("bytes made by calls", sum == 0 ? -1 : made > 10000 ? made : 0, 0);
    }

    private static void dearest() {
        LongBoats x = fives();
        long start = System.nanoTime();
        for (int i = 0; i < 128; i++) {
            x.bold(0, 1, -1);
            x.sure(1, 0);
        }
        long millis = (System.nanoTime() - start) / 1000000;
        System.out.println("EndlessTest: 256 of the dearest calls took " + millis + " ms");
        DUE.due("the dearest calls take too long", millis > 60000 ? millis : 0, 0);
    }
}
