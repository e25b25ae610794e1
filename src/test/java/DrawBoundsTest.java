import java.math.BigInteger;

/** Promises 56 to 58 and the Terms' VI: the least and the most seed, what wraps around, one BOUT and twenty. */
public final class DrawBoundsTest {
    private static final Due DUE = new Due("DrawBoundsTest");
    private static final BigInteger ROUND = BigInteger.valueOf(2147483648L);
    private static final BigInteger TIMES = BigInteger.valueOf(1103515245L);
    private static final BigInteger MORE = BigInteger.valueOf(12345L);
    private static final int MOST = 2000000000;
    private static final int[] SEEDS = {0, 1, 2, 3, 65535, 65536, 65537, 1 << 30, 1103515245, 1999999980, MOST - 1, MOST};
    private static final String WEAK = Harbours.man(40, 0, 0, 0, 2, "middle");
    private static final String FOUL = Harbours.man(40, 0, 0, 0, 2, "edge");

    /** Where the draws are. */
    private BigInteger x;

    private DrawBoundsTest(long seed) {
        x = BigInteger.valueOf(seed);
    }

    private int slip(int most) {
        x = TIMES.multiply(x).add(MORE).mod(ROUND);
        return x.divide(BigInteger.valueOf(65536)).mod(BigInteger.valueOf(2 * most + 1)).intValue() - most;
    }

    private int gap(int steered, int slip, int other) {
        int first = slip(slip);
        return steered + first - slip(other);
    }

    public static void main(String[] args) {
        firstDraws();
        boutsDrawn();
        seedsBounded();
        years();
        yearsBeyond();
        noSlips();
        firstPass();
        noTrace();
        days();
        daysBounded();
        DUE.close();
    }

    /** VI: seed 0 makes 12345, cut 0; the next is 1406932606, 21468 cut; of seed 2,000,000,000 it wraps around. */
    private static void firstDraws() {
        DrawBoundsTest zero = new DrawBoundsTest(0);
        DUE.due("VI the first of 9 ways", zero.slip(4), -4);
        DUE.due("VI x", zero.x.longValueExact(), 12345);
        zero.slip(4);
        DUE.due("VI x then", zero.x.longValueExact(), 1406932606);
        DrawBoundsTest most = new DrawBoundsTest(MOST);
        most.slip(0);
        DUE.due("VI x of the most", most.x.longValueExact(), (1103515245L * 2000000000L + 12345L) % 2147483648L);
    }

    private static String two(int gap, int passes, int slip, int other) {
        return Harbours.head(4, gap, passes) + Harbours.boat(2, slip) + Harbours.boat(2, other);
    }

    /** Promise 56: MAN 1 fouls at the first TOUCH (reach 2 to 4), and leaning 4 MAN 0 falls WIDE. */
    private static void boutsDrawn() {
        for (int seed : SEEDS) {
            for (int slips = 0; slips < 25; slips++) {
                int gap = slips % 7;
                int passes = 1 + slips % 7;
                LongBoats b = Due.told(two(gap, passes, slips / 5, slips % 5)
                        + Harbours.man(40, 0, 0, 0, 4, "middle") + FOUL);
                drawn(b, new DrawBoundsTest(seed), seed, new int[] {gap, passes, slips / 5, slips % 5});
            }
        }
    }

    private static void drawn(LongBoats b, DrawBoundsTest draws, int seed, int[] of) {
        int result = 0;
        int crashes = 0;
        int pass = 0;
        while (pass < of[1] && result == 0) {
            int gap = draws.gap(of[0], of[2], of[3]);
            crashes += gap < 2 ? 1 : 0;
            result = gap < 2 ? 0 : gap > 4 ? 1 : 2;
            pass++;
        }
        String told = " of seed " + seed + ", " + java.util.Arrays.toString(of);
        DUE.due("56 RESULT" + told, b.drawn(seed, 0, 1, 0, 1, 0), result);
        DUE.due("56 in which pass" + told, b.drawn(seed, 0, 1, 0, 1, 1), result == 0 ? -1 : pass - 1);
        DUE.due("56 CRASHES" + told, b.drawn(seed, 0, 1, 0, 1, 2), crashes);
    }

    /** Promise 56: a seed (0 .. 2,000,000,000), what 0 .. 2. */
    private static void seedsBounded() {
        LongBoats b = Due.told(two(3, 3, 1, 1) + WEAK + FOUL);
        for (int seed : new int[] {-1, MOST + 1, Integer.MIN_VALUE, Integer.MAX_VALUE}) {
            for (int what = 0; what <= 2; what++) {
                DUE.due("56 seed " + seed, b.drawn(seed, 0, 1, 0, 1, what), -2);
            }
            DUE.due("57 seed " + seed, b.years(seed, 1, 0, 1, 0, 1, 0), -2);
        }
        DUE.due("56 what -1", b.drawn(0, 0, 1, 0, 1, -1), -2);
        DUE.due("56 what 3", b.drawn(0, 0, 1, 0, 1, 3), -2);
    }

    private static int counted(LongBoats b, long seed, int n, int result) {
        int many = 0;
        for (int year = 0; year < n; year++) {
            DrawBoundsTest draws = new DrawBoundsTest(seed + year);
            int got = 0;
            for (int pass = 0; pass < b.count(5) && got == 0; pass++) {
                int gap = draws.gap(b.count(4), b.boat(0, 1), b.boat(1, 1));
                got = gap < 2 || gap > 4 ? 0 : 2;
            }
            many += got == result ? 1 : 0;
        }
        return many;
    }

    /** Promise 57: n (1 .. 20) from seeds, the seed and 1, ..; a RESULT 0 .. 3. */
    private static void years() {
        for (int seed : new int[] {0, 1, 12345, 1999999980, MOST}) {
            for (int n = 1; n <= 20; n += n == 1 ? 1 : 9) {
                LongBoats b = Due.told(two(1, 2, 2, 1) + WEAK + FOUL);
                for (int result = 0; result <= 3; result++) {
                    DUE.due("57 seed " + seed + ", n " + n + ", RESULT " + result,
                            b.years(seed, n, 0, 1, 0, 1, result), counted(b, seed, n, result));
                }
            }
        }
        LongBoats b = Due.told(two(3, 3, 0, 0) + WEAK + FOUL);
        DUE.due("57 all of one", b.years(0, 1, 0, 1, 0, 1, 2), 1);
        DUE.due("57 all of twenty", b.years(0, 20, 0, 1, 0, 1, 2), 20);
        DUE.due("57 all of twenty, the most seed", b.years(MOST, 20, 0, 1, 0, 1, 2), 20);
        DUE.due("57 none of twenty", b.years(0, 20, 0, 1, 0, 1, 3), 0);
    }

    private static void yearsBeyond() {
        LongBoats b = Due.told(two(3, 3, 1, 1) + WEAK + FOUL);
        for (int n : new int[] {0, 21, -1, Integer.MIN_VALUE, Integer.MAX_VALUE}) {
            DUE.due("57 n " + n, b.years(0, n, 0, 1, 0, 1, 2), -2);
        }
        for (int result : new int[] {-1, 4, Integer.MIN_VALUE, Integer.MAX_VALUE}) {
            DUE.due("57 RESULT " + result, b.years(0, 5, 0, 1, 0, 1, result), -2);
        }
        DUE.due("57 one twice", b.years(0, 5, 1, 1, 0, 1, 2), -2);
        DUE.due("57 BOAT 2", b.years(0, 5, 0, 1, 0, 2, 2), -2);
    }

    /** Without slips all seeds are alike, and as bout(). */
    private static void noSlips() {
        for (int gap = 0; gap <= 12; gap++) {
            LongBoats b = Due.told(two(gap, 7, 0, 0) + WEAK + FOUL);
            for (int seed : SEEDS) {
                DUE.due("56 no slips, RESULT", b.drawn(seed, 0, 1, 0, 1, 0), b.bout(0, 1, 0, 1, 0));
                DUE.due("56 no slips, pass", b.drawn(seed, 0, 1, 0, 1, 1), b.bout(0, 1, 0, 1, 1));
                DUE.due("56 no slips, CRASHES", b.drawn(seed, 0, 1, 0, 1, 2), gap < 2 ? 7 : 0);
            }
        }
    }

    /** Promises 56, 57: each BOUT begins fresh, and they tire in it: 12 against 11, 10 against 10; later other ones. */
    private static void firstPass() {
        for (int tires = 2; tires <= 9; tires += 7) {
            LongBoats b = Due.told(two(3, 3, 0, 0) + Harbours.man(100, 0, 6, tires, 2, "middle")
                    + Harbours.man(110, 0, 4, 11 - tires, 2, "middle"));
            DUE.due("56 out in the first pass", b.drawn(5, 0, 1, 0, 1, 0) * 10 + b.drawn(5, 0, 1, 0, 1, 1), 20);
            DUE.due("57 out each time", b.years(5, 20, 0, 1, 0, 1, 2), 20);
        }
        // 11 against 11 and 10 against 10 do not do in the first pass, whoever tires.
        LongBoats even = Due.told(two(3, 1, 0, 0) + Harbours.man(100, 0, 5, 9, 2, "middle")
                + Harbours.man(110, 0, 4, 9, 2, "middle"));
        DUE.due("56 as much", even.drawn(5, 0, 1, 0, 1, 0), 0);
        DUE.due("57 as much", even.years(5, 20, 0, 1, 0, 1, 0), 20);
        even.train(0, 2, 6);
        DUE.due("57 one more", even.years(5, 20, 0, 1, 0, 1, 2), 20);
        even.train(1, 2, 5);
        DUE.due("57 one more of both", even.years(5, 20, 0, 1, 0, 1, 3), 20);
        // 6 against 11 less a pass: out in the seventh.
        LongBoats b = Due.told(two(3, 7, 0, 0) + Harbours.man(200, 30, 0, 0, 2, "middle")
                + Harbours.man(110, 0, 0, 2, 2, "middle"));
        DUE.due("56 out in the last pass", b.drawn(5, 0, 1, 0, 1, 0) * 10 + b.drawn(5, 0, 1, 0, 1, 1), 26);
        DUE.due("57 out in the last pass", b.years(5, 20, 0, 1, 0, 1, 2), 20);
    }

    /** What is drawn leaves no draws behind: a BOUT and a MATCH without SLIPS are as they were. */
    private static void noTrace() {
        LongBoats b = Due.told(two(3, 1, 4, 4) + WEAK + FOUL + "team 0 0;team 1 1;");
        for (int seed = 0; seed < 20; seed++) {
            b.drawn(seed, 0, 1, 0, 1, 0);
            DUE.due("14 after drawn()", b.bout(0, 1, 0, 1, 0), 2);
            b.years(seed, 3, 0, 1, 0, 1, 0);
            DUE.due("14 after years()", b.bout(0, 1, 0, 1, 0), 2);
            b.day(seed, 0, 1, 0);
            DUE.due("30 after day()", b.match(0, 1, 0), 0);
            int first = b.drawn(seed, 0, 1, 0, 1, 2);
            DUE.due("56 the same again", b.drawn(seed, 0, 1, 0, 1, 2), first);
        }
    }

    /**
     * Promise 58: draws go on from BOUT to BOUT. TEAM 0 has a weak one, TEAM 1 those who foul at a TOUCH; nobody is out
     * at a CRASH or WIDE, and both are followed after as many passes as told.
     */
    private static void days() {
        for (int seed : SEEDS) {
            for (int passes = 1; passes <= 7; passes += 3) {
                LongBoats b = Due.told(two(2, passes, 3, 2) + WEAK.repeat(5) + FOUL.repeat(5)
                        + "team 0 0 1 2 3 4;team 1 5 6 7 8 9;");
                day(b, new DrawBoundsTest(seed), seed, passes);
            }
        }
    }

    private static void day(LongBoats b, DrawBoundsTest draws, int seed, int passes) {
        int first = 5;
        int second = 5;
        int bouts = 0;
        while (first > 0 && second > 0) {
            boolean out = false;
            for (int pass = 0; pass < passes && !out; pass++) {
                int gap = draws.gap(2, 3, 2);
                out = gap >= 2 && gap <= 4;
            }
            first -= out ? 0 : 1;
            second--;
            bouts++;
        }
        String of = " of seed " + seed + ", passes " + passes;
        DUE.due("58 winner" + of, b.day(seed, 0, 1, 0), first > second ? 0 : first < second ? 1 : 2);
        DUE.due("58 left" + of, b.day(seed, 0, 1, 1), Math.abs(first - second));
        DUE.due("58 bouts" + of, b.day(seed, 0, 1, 2), bouts);
    }

    /** Promise 58: -2: as match(), no such seed. */
    private static void daysBounded() {
        LongBoats b = Due.told(two(3, 3, 1, 1) + WEAK + FOUL + "team 0 0;team 1 1;team 1 1;");
        for (int seed : new int[] {-1, MOST + 1, Integer.MIN_VALUE, Integer.MAX_VALUE}) {
            DUE.due("58 seed " + seed, b.day(seed, 0, 1, 0), -2);
        }
        DUE.due("58 seed 0", b.day(0, 0, 1, 2), 1);
        DUE.due("58 the most seed", b.day(MOST, 0, 1, 2), 1);
        for (int what : new int[] {-1, 3, Integer.MIN_VALUE, Integer.MAX_VALUE}) {
            DUE.due("58 what " + what, b.day(0, 0, 1, what), -2);
        }
        DUE.due("58 one TEAM twice", b.day(0, 1, 1, 0), -2);
        DUE.due("58 one MAN in both", b.day(0, 1, 2, 0), -2);
        DUE.due("58 TEAM 3", b.day(0, 0, 3, 0), -2);
        DUE.due("58 TEAM -1", b.day(0, -1, 0, 0), -2);
    }
}
