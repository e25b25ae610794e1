/** Promises 56 to 58: bouts and matches drawn. */
public final class DrawTest {
    private static final Due DUE = new Due("DrawTest");

    public static void main(String[] args) {
        bouts();
        matches();
        DUE.close();
    }

    private static void drawn(LongBoats x, int seed, int against, int result, int pass, int crashes) {
        String of = " of seed " + seed + " against " + against;
        DUE.due("result" + of, x.drawn(seed, 0, against, 0, 1, 0), result);
        DUE.due("pass" + of, x.drawn(seed, 0, against, 0, 1, 1), pass);
        DUE.due("crashes" + of, x.drawn(seed, 0, against, 0, 1, 2), crashes);
    }

    /**
     * Slips of 1 and 1: seed 0 draws -1 -1, 0 0, -1 0; seed 1 draws 1 0, -1 0, 0 1; seed 2 draws 1 1;
     * seed 3 draws 1 -1, -1 1, -1 0; seed 2,000,000,000 draws 0 1.
     */
    private static void bouts() {
        LongBoats x = Due.told(Harbours.THREE);
        drawn(x, 0, 1, 3, 0, 0);
        drawn(x, 3, 1, 2, 0, 0);
        drawn(x, 3, 2, 2, 2, 1);
        drawn(x, 2000000000, 2, 2, 0, 0);
        DUE.due("years", x.years(0, 4, 0, 2, 0, 1, 2), 4);
        DUE.due("years 1 of seed 3", x.years(3, 1, 0, 1, 0, 1, 2), 1);
        x.rule(2, 2);
        drawn(x, 3, 2, 0, -1, 1);
        DUE.due("years 0", x.years(0, 4, 0, 2, 0, 1, 0), 1);
        DUE.due("years 2", x.years(0, 4, 0, 2, 0, 1, 2), 3);
        DUE.due("years 3", x.years(0, 4, 0, 2, 0, 1, 3), 0);
        x.rule(2, 3);
        x.rule(0, 1);
        drawn(x, 0, 1, 0, -1, 3);
        drawn(x, 1, 1, 3, 0, 0);
        x.rule(0, 4);
        drawn(x, 1, 1, 2, 0, 0);
        drawn(x, 1, 2, 2, 1, 0);
        x.rule(0, 3);
        DUE.due("seed -1", x.drawn(-1, 0, 1, 0, 1, 0), -2);
        DUE.due("seed above", x.drawn(2000000001, 0, 1, 0, 1, 0), -2);
        DUE.due("what 3", x.drawn(0, 0, 1, 0, 1, 3), -2);
        DUE.due("what -1", x.drawn(0, 0, 1, 0, 1, -1), -2);
        DUE.due("one twice", x.drawn(0, 1, 1, 0, 1, 0), -2);
        DUE.due("boat 2", x.drawn(0, 0, 1, 0, 2, 0), -2);
        DUE.due("years n 0", x.years(0, 0, 0, 1, 0, 1, 0), -2);
        DUE.due("years n 21", x.years(0, 21, 0, 1, 0, 1, 0), -2);
        DUE.due("years seed above", x.years(2000000001, 1, 0, 1, 0, 1, 0), -2);
        DUE.due("years result 4", x.years(0, 1, 0, 1, 0, 1, 4), -2);
        DUE.due("years one twice", x.years(0, 1, 1, 1, 0, 1, 0), -2);
        int all = 0;
        for (int result = 0; result < 4; result++) {
            all += x.years(2000000000, 20, 0, 2, 0, 1, result);
        }
        DUE.due("years from the last seed", all, 20);
    }

    /**
     * BOAT 0 does not slip but draws all the same; BOAT 1, of seed 0, slips by -1, 0, 0, 0, 0, 0: steered
     * for 4 the first pass is WIDE, and the strong one, first in place of second, tires one pass sooner.
     */
    private static void matches() {
        LongBoats x = Due.told(Harbours.CREWS);
        x.rule(0, 4);
        DUE.due("day winner", x.day(0, 0, 1, 0), 2);
        DUE.due("day left", x.day(0, 0, 1, 1), 0);
        DUE.due("day bouts", x.day(0, 0, 1, 2), 5);
        x.swap(0, 0, 1);
        DUE.due("match swapped", x.match(0, 1, 0), 0);
        DUE.due("day swapped", x.day(0, 0, 1, 0), 1);
        DUE.due("day swapped, left", x.day(0, 0, 1, 1), 1);
        DUE.due("day swapped, bouts", x.day(0, 0, 1, 2), 4);
        DUE.due("day leaves no trace", x.match(0, 1, 0), 0);
        DUE.due("day seed -1", x.day(-1, 0, 1, 0), -2);
        DUE.due("day seed above", x.day(2000000001, 0, 1, 0), -2);
        DUE.due("day what 3", x.day(0, 0, 1, 3), -2);
        DUE.due("day one MAN in both", x.day(0, 0, 2, 0), -2);
    }
}
