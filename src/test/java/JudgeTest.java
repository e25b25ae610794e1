/** Promises 42 to 46: judges and pictures. */
public final class JudgeTest {
    private static final Due DUE = new Due("JudgeTest");
    private static final int ALL_GAPS = (1 << 21) - 1;
    private static final int TOUCHES = 0b11100;
    private static final int CRASHES = 0b00011;
    private static final int WIDES = ALL_GAPS - TOUCHES - CRASHES;

    public static void main(String[] args) {
        judges();
        pictures();
        wrongPictures();
        DUE.close();
    }

    private static void fraction(LongBoats x, int k, int n, long above, long below) {
        DUE.due("judge " + k + " of " + n + " above", x.judge(k, n, 0), above);
        DUE.due("judge " + k + " of " + n + " below", x.judge(k, n, 1), below);
    }

    /** One of three MEN aims at the edge; a judge errs 10 times of a hundred. */
    private static void judges() {
        LongBoats x = Due.told(Harbours.THREE);
        fraction(x, 1, 1, 9, 11);
        fraction(x, 0, 1, 1, 19);
        fraction(x, 2, 2, 81, 83);
        fraction(x, 1, 2, 1, 3);
        fraction(x, 0, 2, 1, 163);
        fraction(x, 4, 4, 6561, 6563);
        fraction(x, 0, 4, 1, 13123);
        DUE.due("judge 3 of 2", x.judge(3, 2, 0), -2);
        DUE.due("judge -1 of 2", x.judge(-1, 2, 0), -2);
        DUE.due("judge 0 of 0", x.judge(0, 0, 0), -2);
        DUE.due("judge 1 of 5", x.judge(1, 5, 0), -2);
        DUE.due("judge what 2", x.judge(1, 2, 2), -2);
        DUE.due("needed 1", x.needed(1), 1);
        DUE.due("needed 2", x.needed(2), 2);
        DUE.due("needed 3", x.needed(3), 2);
        DUE.due("needed 4", x.needed(4), 3);
        DUE.due("needed 0", x.needed(0), -2);
        DUE.due("needed 5", x.needed(5), -2);
        x.rule(3, 50);
        fraction(x, 4, 4, 1, 3);
        DUE.due("needed, coins", x.needed(4), -1);
        x.rule(3, 0);
        fraction(x, 2, 2, 1, 1);
        fraction(x, 0, 2, 0, 1);
        DUE.due("it can't be so", x.judge(1, 2, 0), -1);
        DUE.due("it can't be so, below", x.judge(1, 2, 1), -1);
        DUE.due("needed, no errors", x.needed(3), 3);
        x.train(2, 5, 0);
        DUE.due("nobody aims at it", x.judge(2, 2, 0), -1);
        fraction(x, 0, 2, 0, 1);
        DUE.due("needed, nobody", x.needed(3), -1);
        x.rule(3, 50);
        for (int man = 0; man < 3; man++) {
            x.train(man, 5, 2);
        }
        fraction(x, 0, 3, 1, 1);
        DUE.due("needed, all aim at it", x.needed(3), 0);
        x.train(0, 5, 1);
        DUE.due("needed, most aim at it", x.needed(3), 0);
        Due.tell(x, "harbour stream 0 gap 0 passes 1;");
        DUE.due("no MEN", x.judge(0, 1, 0), -2);
        DUE.due("needed, no MEN", x.needed(1), -2);
    }

    private static void pictures(LongBoats x, long[] row, int gaps, int[] himself, int odd) {
        for (int width = 0; width < 4; width++) {
            Due.lay(x, width, width, row);
            String of = " of " + java.util.Arrays.toString(row) + " width " + width;
            DUE.due("gaps" + of, x.gaps(width), gaps);
            for (int what = 0; what < 3; what++) {
                DUE.due("himself " + what + of, x.himself(width, what), himself[what]);
            }
            DUE.due("odd" + of, x.odd(width), odd);
        }
    }

    private static void pictures() {
        LongBoats x = Due.told(Harbours.THREE);
        pictures(x, new long[] {}, ALL_GAPS, new int[] {0, 0, 0}, -1);
        pictures(x, new long[] {0, 1, 3}, TOUCHES, new int[] {0, 0, 1}, -1);
        pictures(x, new long[] {0, 1, 2}, WIDES, new int[] {0, 0, 0}, 0);
        pictures(x, new long[] {1, 0, 1}, WIDES, new int[] {1, 0, 0}, 0);
        pictures(x, new long[] {0, 1, 0}, CRASHES, new int[] {0, 0, 0}, 0);
        pictures(x, new long[] {2, 0, 1}, TOUCHES, new int[] {0, 1, 0}, -1);
        pictures(x, new long[] {2, 0, 0}, CRASHES + WIDES, new int[] {0, 0, 0}, 0);
        pictures(x, new long[] {2, 0, 0, 1, 2, 1}, WIDES, new int[] {1, 0, 0}, 0);
        pictures(x, new long[] {2, 0, 1, 1, 0, 3, 0, 1, 3}, TOUCHES, new int[] {0, 1, 2}, -1);
        pictures(x, new long[] {2, 0, 1, 1, 0, 3, 0, 1, 2}, 0, new int[] {-1, -1, -1}, 2);
        pictures(x, new long[] {0, 2, 3}, 0, new int[] {-1, -1, -1}, 0);
        // At a TOUCH by a foul, WIDE by himself: of neither it is sure.
        x.train(2, 4, 4);
        pictures(x, new long[] {2, 0, 1}, TOUCHES + WIDES, new int[] {0, 0, 0}, -1);
        pictures(x, new long[] {2, 0, 1, 1, 0, 1}, WIDES, new int[] {2, 0, 0}, 1);
        // Cut to a byte, 258 is 2; of eight bytes it is none.
        Due.lay(x, 0, 0, 258, 0, 1);
        DUE.due("cut to a byte", x.gaps(0), TOUCHES + WIDES);
        Due.lay(x, 0, 3, 258, 0, 1);
        DUE.due("not cut", x.gaps(0), -2);
        Due.lay(x, 0, 2, (1L << 32) + 2, 0, 1);
        DUE.due("cut to four bytes", x.gaps(0), TOUCHES + WIDES);
        Due.lay(x, 0, 3, (1L << 32) + 2, 0, 1);
        DUE.due("eight bytes", x.gaps(0), -2);
    }

    private static void wrongPictures() {
        LongBoats x = Due.told(Harbours.THREE);
        DUE.due("nothing", x.gaps(1) * 100 + x.himself(1, 0) * 10 + x.odd(1), -666);
        DUE.due("nothing, no such what", x.himself(1, 3), -2);
        DUE.due("slot 4", x.gaps(4) * 100 + x.himself(4, 0) * 10 + x.odd(4), -222);
        DUE.due("slot -1", x.gaps(-1) * 100 + x.himself(-1, 0) * 10 + x.odd(-1), -222);
        long[][] rows = {{0, 1}, {0, 1, 3, 0}, {3, 1, 0}, {0, 3, 0}, {-1, 1, 0}, {0, -1, 0}, {0, 1, 4}, {0, 1, -1},
            {1, 1, 0}, {0, 1, 3, 2, 2, 0}};
        for (long[] row : rows) {
            Due.lay(x, 0, 3, row);
            DUE.due("wrong " + java.util.Arrays.toString(row),
                    x.gaps(0) * 100 + x.himself(0, 0) * 10 + x.odd(0), -222);
        }
        Due.lay(x, 0, 3, 0, 1, 3);
        DUE.due("himself what 3", x.himself(0, 3), -2);
        DUE.due("himself what -1", x.himself(0, -1), -2);
        Due.tell(x, "harbour stream 0 gap 0 passes 1;boat oars 2 slip 0;");
        DUE.due("one BOAT", x.gaps(0) * 100 + x.himself(0, 0) * 10 + x.odd(0), -222);
        DUE.due("one BOAT, nothing", x.gaps(1), -2);
    }
}
