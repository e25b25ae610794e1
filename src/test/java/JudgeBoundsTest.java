import java.math.BigInteger;

/** Promises 42 to 46 and the Terms' V: judges who never err or toss coins, PICTURES at the ends of their rows. */
public final class JudgeBoundsTest {
    private static final Due DUE = new Due("JudgeBoundsTest");
    private static final String WEAK = Harbours.man(40, 0, 0, 0, 2, "middle");
    private static final String LEANING = Harbours.man(40, 0, 0, 0, 4, "middle");
    private static final String FOUL = Harbours.man(40, 0, 0, 0, 2, "edge");
    private static final int ALL = (1 << 21) - 1;

    public static void main(String[] args) {
        judgesAll();
        judgesBounded();
        neededTurns();
        gapsOfReaches();
        gapsOfNoPicture();
        rowsOfThree();
        numbersNotSo();
        menAsTold();
        boatsTwo();
        nothingInSlots();
        himselfSure();
        oddFirst();
        firstPass();
        DUE.close();
    }

    private static LongBoats aiming(int edges, int others, int errs) {
        return Due.told(Harbours.head(0, 0, 1) + FOUL.repeat(edges) + WEAK.repeat(others) + "errs " + errs + ";");
    }

    private static BigInteger ways(int men, int hits, int yes, int misses, int no) {
        return BigInteger.valueOf(men).multiply(BigInteger.valueOf(yes).pow(hits))
                .multiply(BigInteger.valueOf(no).pow(misses));
    }

    /** Promise 42: all k of all n, by how many MEN aim at the edge and how often judges err. */
    private static void judgesAll() {
        int[][] crews = {{1, 0}, {0, 1}, {1, 1}, {1, 2}, {3, 0}, {1, 9}, {9, 1}, {10, 0}, {5, 5}};
        for (int[] crew : crews) {
            for (int errs : new int[] {0, 1, 25, 49, 50}) {
                LongBoats x = aiming(crew[0], crew[1], errs);
                for (int n = 1; n <= 4; n++) {
                    judges(x, crew, errs, n);
                }
            }
        }
    }

    private static void judges(LongBoats x, int[] crew, int errs, int n) {
        int needed = -1;
        for (int k = n; k >= 0; k--) {
            BigInteger edge = ways(crew[0], k, 100 - errs, n - k, errs);
            BigInteger other = ways(crew[1], k, errs, n - k, 100 - errs);
            BigInteger all = edge.add(other);
            String of = k + " of " + n + ", " + crew[0] + " and " + crew[1] + " MEN, errs " + errs;
            if (all.signum() == 0) {
                DUE.due("42 it can't be so, above, " + of, x.judge(k, n, 0), -1);
                DUE.due("42 it can't be so, below, " + of, x.judge(k, n, 1), -1);
            } else {
                BigInteger g = edge.gcd(all);
                DUE.due("42 above, " + of, x.judge(k, n, 0), edge.divide(g).longValueExact());
                DUE.due("42 below, " + of, x.judge(k, n, 1), all.divide(g).longValueExact());
            }
            needed = edge.compareTo(other) > 0 ? k : needed;
        }
        DUE.due("43 needed of " + n + ", " + crew[0] + " and " + crew[1] + " MEN, errs " + errs, x.needed(n), needed);
    }

    /** Promise 42: n 1 .. 4, k of these; -2, no MEN. */
    private static void judgesBounded() {
        LongBoats x = aiming(1, 2, 10);
        for (int n = 1; n <= 4; n++) {
            DUE.due("42 -1 of " + n, x.judge(-1, n, 0), -2);
            DUE.due("42 one more than " + n, x.judge(n + 1, n, 0), -2);
            DUE.due("42 what -1", x.judge(n, n, -1), -2);
            DUE.due("42 what 2", x.judge(n, n, 2), -2);
            DUE.due("42 all of " + n, x.judge(n, n, 0) > 0 ? 1 : 0, 1);
            DUE.due("42 none of " + n, x.judge(0, n, 0) > 0 ? 1 : 0, 1);
        }
        for (int n : new int[] {0, 5, -1, Integer.MIN_VALUE, Integer.MAX_VALUE}) {
            DUE.due("42 0 of " + n, x.judge(0, n, 0), -2);
            DUE.due("42 " + n + " of " + n, x.judge(n, n, 1), -2);
            DUE.due("43 of " + n, x.needed(n), -2);
        }
        LongBoats none = Due.told(Harbours.head(0, 0, 1) + "errs 10;");
        for (int n = 1; n <= 4; n++) {
            DUE.due("42 no MEN", none.judge(0, n, 0), -2);
            DUE.due("43 no MEN", none.needed(n), -2);
        }
        DUE.due("42 no HARBOUR", new LongBoats().judge(0, 1, 0), -2);
        DUE.due("43 no HARBOUR", new LongBoats().needed(1), -2);
    }

    /** Promise 43: more likely than not: as likely does not do. NONE: all do not do. */
    private static void neededTurns() {
        // One of two, one of two tell it: as likely as not; both must.
        DUE.due("43 as likely as not", aiming(1, 1, 10).needed(2), 2);
        DUE.due("43 one of one", aiming(1, 1, 49).needed(1), 1);
        DUE.due("43 coins, one of two", aiming(1, 1, 50).needed(1), -1);
        DUE.due("43 coins, most", aiming(2, 1, 50).needed(4), 0);
        DUE.due("43 coins, fewest", aiming(1, 2, 50).needed(4), -1);
        // One of ten, errs 10: one who tells it makes 9 to 9; errs 11 not even so.
        DUE.due("43 nine against nine", aiming(1, 9, 10).needed(1), -1);
        DUE.due("43 a bit more", aiming(1, 9, 9).needed(1), 1);
        DUE.due("43 nobody aims so", aiming(0, 3, 10).needed(4), -1);
        DUE.due("43 all aim so", aiming(3, 0, 10).needed(4), 0);
        DUE.due("43 all aim so and no one errs", aiming(3, 0, 0).needed(4), 4);
        DUE.due("43 no one errs", aiming(1, 9, 0).needed(4), 4);
    }

    private static int bits(int from, int to) {
        int bits = 0;
        for (int gap = from; gap <= to; gap++) {
            bits |= 1 << gap;
        }
        return bits;
    }

    /** Promise 44: the gaps (0 .. 20), as bits: at each reach that there is. */
    private static void gapsOfReaches() {
        for (int from = 0; from <= 12; from++) {
            for (int to = from; to <= 12; to++) {
                LongBoats x = Due.told(Harbours.still(3, 1, FOUL, LEANING) + "reach " + from + " to " + to + ";");
                String of = " of reach " + from + " to " + to;
                Due.lay(x, 0, 0, 0, 1, 0);
                DUE.due("44 crashes" + of, x.gaps(0), bits(0, from - 1));
                himself(x, from == 0 ? -1 : 0, from == 0 ? -1 : 0, from == 0 ? -1 : 0);
                Due.lay(x, 0, 0, 0, 1, 1);
                DUE.due("44 touches" + of, x.gaps(0), bits(from, to));
                himself(x, 0, 1, 0);
                Due.lay(x, 0, 0, 0, 1, 2);
                DUE.due("44 wide" + of, x.gaps(0), bits(to + 1, 20));
                himself(x, 0, 0, 0);
                Due.lay(x, 0, 0, 1, 0, 1);
                DUE.due("44 wide, he himself" + of, x.gaps(0), bits(to + 1, 20));
                himself(x, 1, 0, 0);
                Due.lay(x, 0, 0, 0, 1, 3);
                DUE.due("44 no gap" + of, x.gaps(0), 0);
                DUE.due("45 NONE" + of, x.himself(0, 0), -1);
            }
        }
    }

    /** A row of no numbers tells nothing: all gaps; a SLOT without a row has nothing. */
    private static void gapsOfNoPicture() {
        LongBoats x = Due.told(Harbours.still(3, 1, FOUL, LEANING));
        x.row(0, 0, 0);
        DUE.due("44 all gaps", x.gaps(0), ALL);
        for (int what = 0; what <= 2; what++) {
            DUE.due("45 of none of these", x.himself(0, what), 0);
        }
        DUE.due("46 all are", x.odd(0), -1);
        LongBoats nobody = Due.told(Harbours.still(3, 1));
        nobody.row(0, 0, 0);
        DUE.due("44 no MEN, no picture", nobody.gaps(0), ALL);
        nobody.row(0, 0, 3);
        DUE.due("44 no MEN, a picture", nobody.gaps(0), -2);
    }

    /** Promise 44: three numbers each: rows of 0 .. 60. */
    private static void rowsOfThree() {
        for (int n = 1; n <= 60; n++) {
            LongBoats x = Due.told(Harbours.still(3, 1, FOUL, LEANING));
            long[] row = new long[n];
            for (int i = 0; i < n; i++) {
                row[i] = i % 3 == 0 ? 0 : 1;
            }
            Due.lay(x, 2, n % 4, row);
            boolean whole = n % 3 == 0;
            DUE.due("44 a row of " + n, x.gaps(2), whole ? 28 : -2);
            DUE.due("45 a row of " + n, x.himself(2, 1), whole ? n / 3 : -2);
            DUE.due("46 a row of " + n, x.odd(2), whole ? -1 : -2);
        }
    }

    /** Promise 44: -2: a number is not so, one MAN twice; be it in the first picture or the last. */
    private static void numbersNotSo() {
        long[][] wrong = {{-1, 1, 1}, {2, 1, 1}, {0, -1, 1}, {0, 2, 1}, {0, 1, -1}, {0, 1, 4}, {0, 0, 1}, {1, 1, 1},
            {127, 1, 1}, {-128, 1, 1}, {0, 127, 1}, {0, 1, 127}, {0, 1, -128}, {2, 2, 0}, {0, 0, 4}};
        for (long[] w : wrong) {
            for (int at = 0; at <= 57; at += 57) {
                LongBoats x = Due.told(Harbours.still(3, 1, FOUL, LEANING));
                long[] row = new long[60];
                for (int i = 0; i < 60; i++) {
                    row[i] = i % 3 == 0 ? 0 : 1;
                }
                System.arraycopy(w, 0, row, at, 3);
                for (int width = 0; width <= 3; width++) {
                    Due.lay(x, 1, width, row);
                    String of = " " + java.util.Arrays.toString(w) + " at " + at + ", width " + width;
                    DUE.due("44" + of, x.gaps(1), -2);
                    DUE.due("45" + of, x.himself(1, 1), -2);
                    DUE.due("46" + of, x.odd(1), -2);
                }
            }
        }
        long[] far = {1L << 32, (1L << 32) + 1, -(1L << 32), Long.MIN_VALUE, Long.MAX_VALUE, 1L << 63 - 1};
        for (long v : far) {
            for (int i = 0; i < 3; i++) {
                LongBoats x = Due.told(Harbours.still(3, 1, FOUL, LEANING));
                Due.lay(x, 1, 3, 0, 1, 1);
                x.write(1, i, v);
                DUE.due("44 eight bytes, " + v + " at " + i, x.gaps(1), -2);
            }
        }
    }

    /** A MAN is one who is told: the last of them, and one more. */
    private static void menAsTold() {
        for (int men = 2; men <= 10; men++) {
            LongBoats x = Due.told(Harbours.still(3, 1) + FOUL.repeat(men));
            Due.lay(x, 3, 1, men - 1, 0, 3);
            DUE.due("44 the last MAN of " + men, x.gaps(3), 28);
            Due.lay(x, 3, 1, 0, men - 1, 3);
            DUE.due("44 against the last MAN of " + men, x.gaps(3), 28);
            Due.lay(x, 3, 1, men, 0, 3);
            DUE.due("44 one more than " + men, x.gaps(3), -2);
            Due.lay(x, 3, 1, 0, men, 3);
            DUE.due("44 against one more than " + men, x.gaps(3), -2);
        }
    }

    /** Promise 44: of BOATS 0 and 1; fewer than two are -2, ahead of -6. */
    private static void boatsTwo() {
        for (int boats = 0; boats <= 4; boats++) {
            LongBoats x = Due.told(Harbours.head(4, 3, 1) + Harbours.boat(2, 0).repeat(boats) + FOUL + LEANING);
            Due.lay(x, 0, 0, 0, 1, 1);
            boolean two = boats >= 2;
            DUE.due("44 BOATS " + boats, x.gaps(0), two ? 28 : -2);
            DUE.due("45 BOATS " + boats, x.himself(0, 1), two ? 1 : -2);
            DUE.due("46 BOATS " + boats, x.odd(0), two ? -1 : -2);
            DUE.due("44 BOATS " + boats + ", nothing", x.gaps(1), two ? -6 : -2);
            DUE.due("45 BOATS " + boats + ", nothing", x.himself(1, 1), two ? -6 : -2);
            DUE.due("46 BOATS " + boats + ", nothing", x.odd(1), two ? -6 : -2);
        }
        // SPEED of BOATS 0 and 1 is 10, of the others more or less: FORCE 16 is above 20 less 5, 15 not above 16.
        String even = Harbours.man(200, 0, 0, 0, 2, "middle");
        LongBoats x = Due.told(Harbours.head(0, 3, 1) + Harbours.boat(5, 0) + Harbours.boat(5, 0)
                + Harbours.boat(4, 0) + Harbours.boat(2, 0) + even + even);
        Due.lay(x, 0, 0, 0, 1, 3);
        DUE.due("44 BOATS 0 and 1", x.gaps(0), 28);
        x.mend(1, 0, 4);
        DUE.due("44 BOAT 1 slower", x.gaps(0), 0);
        x.mend(0, 0, 6);
        DUE.due("44 BOAT 0 faster", x.gaps(0), 28);
    }

    /** -6: it has nothing; -2: there is no such SLOT, no such what. */
    private static void nothingInSlots() {
        LongBoats x = Due.told(Harbours.still(3, 1, FOUL, LEANING));
        for (int slot = 0; slot <= 3; slot++) {
            DUE.due("44 nothing in " + slot, x.gaps(slot), -6);
            DUE.due("45 nothing in " + slot, x.himself(slot, 0), -6);
            DUE.due("46 nothing in " + slot, x.odd(slot), -6);
            x.row(slot, 0, -1);
            DUE.due("44 still nothing in " + slot, x.gaps(slot), -6);
        }
        for (int slot : new int[] {-1, 4, Integer.MIN_VALUE, Integer.MAX_VALUE}) {
            DUE.due("44 SLOT " + slot, x.gaps(slot), -2);
            DUE.due("45 SLOT " + slot, x.himself(slot, 0), -2);
            DUE.due("46 SLOT " + slot, x.odd(slot), -2);
        }
        Due.lay(x, 0, 0, 0, 1, 1);
        for (int what : new int[] {-1, 3, Integer.MIN_VALUE, Integer.MAX_VALUE}) {
            DUE.due("45 what " + what, x.himself(0, what), -2);
        }
        Due.lay(x, 0, 0, 0, 1, 3);
        DUE.due("45 no gaps, no such what", x.himself(0, 3), -2);
    }

    /** Promise 45: it is sure by those gaps: by all of them. */
    private static void himselfSure() {
        // MAN 0 leans 4 and aims at the edge: out at a TOUCH by a foul, WIDE by himself; MAN 1 is out at a TOUCH as
        // MAN 2 is, by a thrust.
        LongBoats x = Due.told(Harbours.still(3, 1, Harbours.man(40, 0, 0, 0, 4, "edge"), WEAK, WEAK));
        Due.lay(x, 0, 0, 0, 1, 1);
        himself(x, 0, 0, 0);
        Due.lay(x, 0, 0, 0, 1, 1, 1, 2, 3);
        himself(x, 0, 1, 1);
        Due.lay(x, 0, 0, 0, 1, 1, 1, 2, 0);
        himself(x, 1, 0, 0);
        Due.lay(x, 0, 0, 1, 2, 3, 2, 1, 3);
        himself(x, 0, 0, 2);
        // What becomes of the second one is not asked.
        Due.lay(x, 0, 0, 1, 0, 2, 1, 2, 0);
        himself(x, 0, 0, 0);
        Due.lay(x, 0, 0, 1, 2, 3, 1, 2, 0);
        himself(x, -1, -1, -1);
        Due.lay(x, 0, 0, 1, 2, 0);
        himself(x, 0, 0, 0);
    }

    private static void himself(LongBoats x, int byHimself, int byFoul, int thrust) {
        DUE.due("45 by himself", x.himself(0, 0), byHimself);
        DUE.due("45 by a foul", x.himself(0, 1), byFoul);
        DUE.due("45 thrust off", x.himself(0, 2), thrust);
    }

    /** Promises 44 to 46: of a first pass: 12 is more than 11, 10 not more than 10, whoever tires. */
    private static void firstPass() {
        for (int tires = 2; tires <= 9; tires += 7) {
            LongBoats x = Due.told(Harbours.still(3, 1, Harbours.man(100, 0, 6, tires, 2, "middle"),
                    Harbours.man(110, 0, 4, 11 - tires, 2, "middle")));
            Due.lay(x, 0, 0, 0, 1, 2);
            DUE.due("44 he is fresh", x.gaps(0), 28);
            himself(x, 0, 0, 0);
            DUE.due("46 he is fresh", x.odd(0), -1);
            Due.lay(x, 0, 0, 1, 0, 1);
            DUE.due("44 the other one is", x.gaps(0), 28);
            himself(x, 0, 0, 1);
            DUE.due("46 the other one is", x.odd(0), -1);
        }
    }

    /** Promise 46: the first of these (from 0) that is not so at the gap told; NONE: all are. */
    private static void oddFirst() {
        for (int odd = 0; odd <= 20; odd++) {
            LongBoats x = Due.told(Harbours.still(3, 1, FOUL, LEANING));
            long[] row = new long[60];
            for (int i = 0; i < 60; i++) {
                row[i] = i % 3 == 0 ? 0 : i % 3 == 1 || i / 3 < odd ? 1 : 0;
            }
            Due.lay(x, 0, 0, row);
            DUE.due("46 the first from " + odd, x.odd(0), odd == 20 ? -1 : odd);
        }
        LongBoats x = Due.told(Harbours.still(3, 1, FOUL, LEANING));
        Due.lay(x, 0, 0, 0, 1, 1);
        int[] at = {0, 0, -1, -1, -1, 0, 0, 0, 0, 0, 0, 0, 0};
        for (int gap = 0; gap <= 12; gap++) {
            x.rule(0, gap);
            DUE.due("46 at gap " + gap, x.odd(0), at[gap]);
        }
    }
}
