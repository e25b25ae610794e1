/** Promises 15 to 21, 23, 55 and the Terms' III: chances where they are none or sure, what is best at a bound. */
public final class SlipsBoundsTest {
    private static final Due DUE = new Due("SlipsBoundsTest");
    private static final String WEAK = Harbours.man(40, 0, 0, 0, 2, "middle");
    private static final String STRONG = Harbours.man(200, 30, 30, 0, 2, "middle");
    private static final String FOUL = Harbours.man(40, 0, 0, 0, 2, "edge");

    public static void main(String[] args) {
        comesSure();
        comesBelowNothing();
        comesAllPairs();
        steersAsMuch();
        steersByNone();
        steersLeast();
        oddsSure();
        endsOfOnePass();
        endsOfSeven();
        lastsFromOne();
        bestAtBounds();
        oarsAtBounds();
        evenAtBounds();
        parts();
        firstPass();
        bestIsAChoice();
        DUE.close();
    }

    private static String boats(int slip, int other, String rest) {
        return Harbours.head(4, 3, 3) + Harbours.boat(2, slip) + Harbours.boat(2, other) + rest;
    }

    private static void comes(LongBoats x, int gap, int kind, int above, int below) {
        DUE.due("15 gap " + gap + " kind " + kind + " above", x.comes(0, 1, gap, kind, 0), above);
        DUE.due("15 gap " + gap + " kind " + kind + " below", x.comes(0, 1, gap, kind, 1), below);
    }

    /** III: FRACTIONS are told in lowest terms (0 / 1). Without slips all is sure. */
    private static void comesSure() {
        int[] kind = {0, 0, 1, 1, 1, 2, 2, 2, 2, 2, 2, 2, 2};
        LongBoats x = Due.told(boats(0, 0, ""));
        for (int gap = 0; gap <= 12; gap++) {
            for (int k = 0; k <= 2; k++) {
                comes(x, gap, k, k == kind[gap] ? 1 : 0, 1);
            }
        }
        DUE.due("15 gap 13", x.comes(0, 1, 13, 2, 0), -2);
        DUE.due("15 gap -1", x.comes(0, 1, -1, 0, 0), -2);
    }

    /** III: the gap is what is steered for and the first slip less the second one, be it below 0. */
    private static void comesBelowNothing() {
        LongBoats x = Due.told(boats(1, 0, "reach 0 to 0;"));
        for (int k = 0; k <= 2; k++) {
            comes(x, 0, k, 1, 3);
        }
        comes(x, 1, 0, 0, 1);
        comes(x, 1, 1, 1, 3);
        comes(x, 1, 2, 2, 3);
        LongBoats y = Due.told(boats(0, 4, "reach 0 to 12;"));
        comes(y, 0, 0, 4, 9);
        comes(y, 0, 1, 5, 9);
        comes(y, 3, 0, 1, 9);
        comes(y, 4, 0, 0, 1);
        comes(y, 4, 1, 1, 1);
        comes(y, 8, 1, 1, 1);
        comes(y, 9, 2, 1, 9);
        comes(y, 12, 2, 4, 9);
        comes(y, 12, 0, 0, 1);
    }

    /** III: slips of -slip .. slip, apart: most of all pairs are 81. */
    private static void comesAllPairs() {
        LongBoats x = Due.told(boats(4, 4, "reach 12 to 12;"));
        comes(x, 12, 0, 4, 9);
        comes(x, 12, 1, 1, 9);
        comes(x, 12, 2, 4, 9);
        comes(x, 4, 1, 1, 81);
        comes(x, 3, 1, 0, 1);
        comes(x, 3, 0, 1, 1);
        comes(x, 5, 0, 26, 27);
        LongBoats y = Due.told(boats(4, 0, "reach 0 to 12;"));
        // One BOAT twice: it slips twice, apart.
        DUE.due("15 one twice, above", y.comes(0, 0, 0, 0, 0), 4);
        DUE.due("15 one twice, below", y.comes(0, 0, 0, 0, 1), 9);
        DUE.due("15 one twice, 12, above", y.comes(0, 0, 7, 0, 0), 1);
        DUE.due("15 one twice, 12, below", y.comes(0, 0, 7, 0, 1), 81);
        DUE.due("15 one twice, sure", y.comes(0, 0, 8, 0, 0) * 100 + y.comes(0, 0, 8, 0, 1), 1);
        DUE.due("15 the other one twice", y.comes(1, 1, 0, 1, 0) * 100 + y.comes(1, 1, 0, 1, 1), 101);
    }

    /** Promise 16: CRASH no more than above / below: as much does, a hair less does not. */
    private static void steersAsMuch() {
        // Of nine pairs gap 2 has 3 CRASHES and 6 TOUCHES, gap 3 has 1 and 7, gap 4 has 0 and 6.
        LongBoats x = Due.told(boats(1, 1, ""));
        int[][] shares = {{1, 9, 3}, {11, 99, 3}, {11, 100, 4}, {12, 100, 3}, {10, 91, 4}, {10, 90, 3}, {0, 1, 4},
            {0, 100, 4}, {100, 100, 3}, {100, 1, 3}, {1, 1, 3}, {1, 100, 4}};
        for (int[] s : shares) {
            DUE.due("16 " + s[0] + " / " + s[1], x.steer(0, 1, s[0], s[1]), s[2]);
        }
        DUE.due("16 above -1", x.steer(0, 1, -1, 1), -2);
        DUE.due("16 above 101", x.steer(0, 1, 101, 1), -2);
        DUE.due("16 below 0", x.steer(0, 1, 0, 0), -2);
        DUE.due("16 below 101", x.steer(0, 1, 0, 101), -2);
    }

    /** Promise 16: NONE: by none. At gap 12 of reach 12 there are 36 CRASHES of 81. */
    private static void steersByNone() {
        LongBoats x = Due.told(boats(4, 4, "reach 12 to 12;"));
        DUE.due("16 4 / 9", x.steer(0, 1, 4, 9), 12);
        DUE.due("16 36 / 81", x.steer(0, 1, 36, 81), 12);
        DUE.due("16 35 / 81", x.steer(0, 1, 35, 81), -1);
        DUE.due("16 44 / 100", x.steer(0, 1, 44, 100), -1);
        DUE.due("16 45 / 100", x.steer(0, 1, 45, 100), 12);
        DUE.due("16 0 / 1", x.steer(0, 1, 0, 1), -1);
        LongBoats y = Due.told(boats(1, 0, "reach 12 to 12;"));
        DUE.due("16 1 / 3", y.steer(0, 1, 1, 3), 12);
        DUE.due("16 33 / 100", y.steer(0, 1, 33, 100), -1);
        DUE.due("16 no slips", y.steer(1, 1, 0, 1), 12);
    }

    /** Promise 16: the gap (0 .. 12), the least of several. */
    private static void steersLeast() {
        DUE.due("16 gap 0", Due.told(boats(0, 0, "reach 0 to 0;")).steer(0, 1, 0, 1), 0);
        DUE.due("16 the least of all", Due.told(boats(0, 0, "reach 0 to 12;")).steer(0, 1, 0, 1), 0);
        DUE.due("16 the least of some", Due.told(boats(0, 0, "reach 5 to 9;")).steer(0, 1, 0, 1), 5);
        DUE.due("16 gap 12", Due.told(boats(0, 0, "reach 12 to 12;")).steer(0, 1, 0, 1), 12);
        // Slips of 1: gaps 6 .. 8 of reach 5 to 9 are alike, 1 .. 11 of 0 to 12.
        DUE.due("16 the least with slips", Due.told(boats(1, 0, "reach 5 to 9;")).steer(0, 1, 1, 1), 6);
        DUE.due("16 the least with slips, wide", Due.told(boats(1, 0, "reach 0 to 12;")).steer(0, 1, 1, 1), 1);
        // Reach 0 to 1 with a slip of 1: gaps 0 and 1 are alike, but only 1 has no CRASH.
        DUE.due("16 least, a CRASH may be", Due.told(boats(1, 0, "reach 0 to 1;")).steer(0, 1, 1, 3), 0);
        DUE.due("16 least, none may be", Due.told(boats(1, 0, "reach 0 to 1;")).steer(0, 1, 0, 1), 1);
    }

    private static void odds(LongBoats x, int[] above, int below) {
        int sum = 0;
        for (int result = 0; result <= 3; result++) {
            int got = x.odds(0, 1, 0, 1, result, 0);
            DUE.due("17 result " + result + " above", got, above[result]);
            DUE.due("17 result " + result + " below", x.odds(0, 1, 0, 1, result, 1), above[result] == 0 ? 1 : below);
            sum += got;
        }
        DUE.due("17 all of it", sum, below);
        DUE.due("17 result -1", x.odds(0, 1, 0, 1, -1, 0), -2);
        DUE.due("17 result 4", x.odds(0, 1, 0, 1, 4, 0), -2);
    }

    /** Promise 17: sure ones, and a chance of each RESULT. */
    private static void oddsSure() {
        odds(Due.told(boats(0, 0, WEAK + WEAK)), new int[] {0, 0, 0, 1}, 1);
        odds(Due.told(boats(0, 0, WEAK + STRONG)), new int[] {0, 1, 0, 0}, 1);
        odds(Due.told(boats(0, 0, STRONG + WEAK)), new int[] {0, 0, 1, 0}, 1);
        odds(Due.told(boats(0, 0, STRONG + STRONG)), new int[] {1, 0, 0, 0}, 1);
        // Slips 4 and 4 at gap 3: 25 TOUCHES (d of -1 .. 1), 28 CRASHES, 28 WIDE.
        LongBoats x = Due.told(boats(4, 4, WEAK + STRONG));
        odds(x, new int[] {56, 25, 0, 0}, 81);
        x.train(1, 4, 4);
        odds(x, new int[] {28, 25, 28, 0}, 81);
        x.train(0, 4, 4);
        odds(x, new int[] {28, 25, 0, 28}, 81);
    }

    /** Promise 18: of one pass it is as odds(). */
    private static void endsOfOnePass() {
        LongBoats x = Due.told(boats(4, 4, WEAK + Harbours.man(200, 30, 30, 9, 4, "corner")));
        x.rule(2, 1);
        for (int result = 0; result <= 3; result++) {
            for (int what = 0; what <= 1; what++) {
                DUE.due("18 of one pass, " + result + " " + what, x.ends(0, 1, 0, 1, result, what),
                        x.odds(0, 1, 0, 1, result, what));
            }
        }
        DUE.due("19 of one pass, above", x.lasts(0, 1, 0, 1, 0), 1);
        DUE.due("19 of one pass, below", x.lasts(0, 1, 0, 1, 1), 1);
    }

    /** Promise 18: of seven passes, with 81 pairs of slips each: beyond an int. */
    private static void endsOfSeven() {
        LongBoats x = Due.told(boats(4, 4, FOUL + WEAK));
        x.rule(2, 7);
        long all = 81L * 81 * 81 * 81 * 81 * 81 * 81;
        // 25 TOUCHES of 81: MAN 0 is up after all seven by 56 / 81 each.
        long up = 56L * 56 * 56 * 56 * 56 * 56 * 56;
        DUE.due("18 seven, nobody, above", x.ends(0, 1, 0, 1, 0, 0), up);
        DUE.due("18 seven, nobody, below", x.ends(0, 1, 0, 1, 0, 1), all);
        DUE.due("18 seven, out, above", x.ends(0, 1, 0, 1, 1, 0), all - up);
        DUE.due("18 seven, out, below", x.ends(0, 1, 0, 1, 1, 1), all);
        DUE.due("18 seven, never, above", x.ends(0, 1, 0, 1, 2, 0), 0);
        DUE.due("18 seven, never, below", x.ends(0, 1, 0, 1, 2, 1), 1);
        // The mean: 1 and 56 / 81 and its powers up to the 6th.
        long below = all / 81;
        long above = 0;
        long term = below;
        for (int p = 0; p < 7; p++) {
            above += term;
            term = term / 81 * 56;
        }
        DUE.due("19 seven, above", x.lasts(0, 1, 0, 1, 0), above);
        DUE.due("19 seven, below", x.lasts(0, 1, 0, 1, 1), below);
        x.rule(0, 12);
        x.mend(0, 1, 3);
        DUE.due("18 never a TOUCH, above", x.ends(0, 1, 0, 1, 0, 0), 1);
        DUE.due("18 never a TOUCH, below", x.ends(0, 1, 0, 1, 0, 1), 1);
    }

    /** Promise 19: from one pass to as many as there may be. */
    private static void lastsFromOne() {
        for (int passes = 1; passes <= 7; passes++) {
            LongBoats x = Due.told(boats(0, 0, FOUL + WEAK));
            x.rule(2, passes);
            DUE.due("19 out at once, above", x.lasts(0, 1, 0, 1, 0), 1);
            DUE.due("19 out at once, below", x.lasts(0, 1, 0, 1, 1), 1);
            x.rule(0, 0);
            DUE.due("19 never out, above", x.lasts(0, 1, 0, 1, 0), passes);
            DUE.due("19 never out, below", x.lasts(0, 1, 0, 1, 1), 1);
            // A slip of 1 at gap 2: one of three is a CRASH: 1 and 1 / 3 and 1 / 9 ..
            LongBoats y = Due.told(boats(1, 0, FOUL + WEAK));
            y.rule(0, 2);
            y.rule(2, passes);
            long power = 1;
            for (int p = 1; p < passes; p++) {
                power *= 3;
            }
            DUE.due("19 of thirds, above", y.lasts(0, 1, 0, 1, 0), (3 * power - 1) / 2);
            DUE.due("19 of thirds, below", y.lasts(0, 1, 0, 1, 1), power);
            DUE.due("18 of thirds, above", y.ends(0, 1, 0, 1, 1, 0), 3 * power - 1);
            DUE.due("18 of thirds, below", y.ends(0, 1, 0, 1, 1, 1), 3 * power);
        }
    }

    /**
     * Promise 20: the first of several. MAN 0 is quick 10 and is never out; leaning l he has MAN 1 out by the
     * middle if 14 + l, by the corner if 15 + l, is more than how MAN 1 STANDS by the middle.
     */
    private static void bestAtBounds() {
        int[][] standsAndBest = {{10, 0}, {13, 0}, {14, 1}, {15, 3}, {16, 5}, {17, 7}, {18, 9}, {19, 0}, {30, 0}};
        for (int[] s : standsAndBest) {
            int skill = s[0] - 4;
            LongBoats x = Due.told(boats(0, 0, Harbours.man(200, 30, 10, 0, 3, "edge")
                    + Harbours.man(40, skill, 0, 0, 2, "middle")));
            DUE.due("20 against one who stands " + s[0], x.best(0, 1, 0, 1), s[1]);
            DUE.due("20 he leans as he did", x.man(0, 4) * 10 + x.man(0, 5), 32);
        }
        // WIDE nobody has another one out; who leans 4 falls: the first of the others. A CRASH: the first of all.
        LongBoats x = Due.told(boats(0, 0, WEAK + WEAK));
        x.rule(0, 5);
        DUE.due("20 wide", x.best(0, 1, 0, 1), 0);
        x.rule(0, 0);
        DUE.due("20 crash", x.best(0, 1, 0, 1), 0);
        // Out whatever he does, but both are from 7 on: the most GAIN is 0.
        LongBoats y = Due.told(boats(0, 0, Harbours.man(40, 0, 10, 0, 2, "middle")
                + Harbours.man(40, 13, 30, 0, 2, "middle")));
        DUE.due("20 the most is nothing", y.best(0, 1, 0, 1), 7);
        y.train(1, 1, 30);
        DUE.due("20 the most is below nothing", y.best(0, 1, 0, 1), 0);
    }

    /**
     * Promise 21: the oars (2 .. 12), the least of several. SPEED is 2 and the oars; MAN 0's FORCE is 6 and
     * SPEED, MAN 1 STANDS so much less half the SPEED.
     */
    private static void oarsAtBounds() {
        int[][] standsAndOars = {{11, 2}, {12, 3}, {13, 4}, {14, 4}, {23, 10}, {24, 11}, {25, 12}, {26, 12}, {27, 2},
            {40, 2}};
        for (int[] s : standsAndOars) {
            for (int told = 2; told <= 12; told += 5) {
                LongBoats x = Due.told(Harbours.head(0, 3, 3) + Harbours.boat(told, 0) + Harbours.boat(2, 0)
                        + Harbours.man(200, 30, 0, 0, 2, "middle")
                        + Harbours.man(100, s[0] - 10, 0, 0, 2, "middle"));
                DUE.due("21 stands " + s[0] + ", oars told " + told, x.oars(0, 1, 0, 1), s[1]);
                x.train(0, 0, 40);
                x.train(0, 1, 0);
                x.train(1, 2, 30);
                DUE.due("21 out himself, stands " + s[0] + ", oars told " + told, x.oars(0, 1, 0, 1), s[1]);
                DUE.due("21 the oars stay", x.boat(0, 0), told);
                DUE.due("21 the other oars stay", x.boat(1, 0), 2);
            }
        }
        // SPEED is 0 at least: up to 7 oars there is none, and the least is as good.
        LongBoats x = Due.told(Harbours.head(9, 3, 3) + Harbours.boat(7, 0) + Harbours.boat(2, 0)
                + Harbours.man(200, 30, 0, 0, 2, "middle") + Harbours.man(40, 1, 0, 0, 2, "middle"));
        DUE.due("21 no SPEED does", x.oars(0, 1, 0, 1), 2);
        x.train(1, 1, 2);
        DUE.due("21 SPEED 1 does", x.oars(0, 1, 0, 1), 8);
    }

    /** Promise 23: MAN 0 STANDS 5 and a tenth of his weight, MAN 1 has FORCE 6 and quick, and is never out. */
    private static void evenAtBounds() {
        int[][] quickManyLeast = {{3, 161, 40}, {4, 151, 50}, {5, 141, 60}, {18, 11, 190}, {19, 1, 200}, {20, 0, -1}};
        for (int[] q : quickManyLeast) {
            LongBoats x = Due.told(boats(0, 0, Harbours.man(99, 5, 0, 0, 2, "middle")
                    + Harbours.man(200, 30, q[0], 0, 2, "middle")));
            DUE.due("23 how many, quick " + q[0], x.even(0, 1, 0, 1, 0), q[1]);
            DUE.due("23 the least, quick " + q[0], x.even(0, 1, 0, 1, 1), q[2]);
            DUE.due("23 his weight stays", x.man(0, 0), 99);
        }
        LongBoats x = Due.told(boats(0, 0, STRONG + WEAK));
        DUE.due("23 above 0 by all, how many", x.even(0, 1, 0, 1, 0), 0);
        DUE.due("23 above 0 by all, the least", x.even(0, 1, 0, 1, 1), -1);
        x.rule(0, 1);
        DUE.due("23 a CRASH, how many", x.even(0, 1, 0, 1, 0), 161);
        DUE.due("23 a CRASH, the least", x.even(0, 1, 0, 1, 1), 40);
        // A slip of 4 at gap 4 of reach 1 to 4: a foul at 4 TOUCHES, a fall of the other one at 4 WIDE; at gap 5,
        // 4 and 5.
        LongBoats y = Due.told(boats(4, 0, "reach 1 to 4;" + FOUL + Harbours.man(40, 0, 0, 0, 4, "middle")));
        y.rule(0, 4);
        DUE.due("23 a foul as often as a fall", y.even(0, 1, 0, 1, 0), 161);
        y.rule(0, 5);
        DUE.due("23 a foul less often", y.even(0, 1, 0, 1, 0), 0);
    }

    /** III: in a first pass nobody is tired: MAN 0's FORCE of 12 is more than 11, MAN 1's of 10 not more than 10. */
    private static void firstPass() {
        LongBoats x = Due.told(boats(0, 0, Harbours.man(100, 0, 6, 2, 2, "middle")
                + Harbours.man(110, 0, 4, 9, 2, "middle")));
        odds(x, new int[] {0, 0, 1, 0}, 1);
        DUE.due("55 no slips", x.part(0, 1, 0, 1), 0);
        DUE.due("24 GAIN", x.game(0, 1, 0, 1, 4, 4), 1);
        DUE.due("24 GAIN of the other one", x.game(1, 0, 0, 1, 4, 4), -1);
        x.train(0, 3, 9);
        x.train(1, 3, 2);
        odds(x, new int[] {0, 0, 1, 0}, 1);
        DUE.due("24 GAIN, the first one tires", x.game(0, 1, 0, 1, 4, 4), 1);
        DUE.due("55 no slips, the first one tires", x.part(0, 1, 0, 1), 0);
        x.mend(0, 1, 4);
        x.mend(1, 1, 4);
        DUE.due("55 25 TOUCHES of 81", x.part(0, 1, 0, 1), 25 - 81);
        DUE.due("55 the other one", x.part(1, 0, 0, 1), 81 - 25);
    }

    /** III: CHOICES 0 .. 9: who leans 4 by the corner has MAN 1 out at 2 TOUCHES of 3, and falls at the WIDE one. */
    private static void bestIsAChoice() {
        LongBoats x = Due.told(boats(1, 0, Harbours.man(200, 30, 10, 0, 3, "edge")
                + Harbours.man(40, 14, 0, 0, 2, "middle")));
        x.rule(0, 4);
        DUE.due("20 no more than 9", x.best(0, 1, 0, 1), 9);
        DUE.due("24 its GAIN", x.game(0, 1, 0, 1, 9, 4), 1);
        DUE.due("24 no more than 9", x.game(0, 1, 0, 1, 10, 4), -1000);
        x.train(1, 1, 13);
        DUE.due("20 who leans 3 does not fall", x.best(0, 1, 0, 1), 7);
        DUE.due("24 its GAIN, too", x.game(0, 1, 0, 1, 7, 4), 2);
    }

    /** Promise 55: by how many of all pairs of slips; below 0: less. */
    private static void parts() {
        LongBoats x = Due.told(boats(0, 0, WEAK + FOUL));
        for (int gap = 0; gap <= 6; gap++) {
            x.rule(0, gap);
            DUE.due("55 no slips, gap " + gap, x.part(0, 1, 0, 1), 0);
        }
        x.mend(0, 1, 4);
        x.mend(1, 1, 4);
        // TOUCHES of 81 by the gap told: d within 2 - gap .. 4 - gap.
        int[] touches = {18, 21, 24, 25, 24, 21, 18, 15, 12, 9, 6, 3, 1};
        for (int gap = 0; gap <= 12; gap++) {
            boolean touch = gap >= 2 && gap <= 4;
            x.rule(0, gap);
            DUE.due("55 gap " + gap, x.part(0, 1, 0, 1), touches[gap] - (touch ? 81 : 0));
            DUE.due("55 gap " + gap + ", the other one", x.part(1, 0, 0, 1), (touch ? 81 : 0) - touches[gap]);
        }
        DUE.due("55 one twice", x.part(0, 0, 0, 1), -1000);
        DUE.due("55 MAN 2", x.part(0, 2, 0, 1), -1000);
        DUE.due("55 BOAT 2", x.part(0, 1, 0, 2), -1000);
        DUE.due("55 BOAT -1", x.part(0, 1, -1, 0), -1000);
        DUE.due("55 no HARBOUR", new LongBoats().part(0, 1, 0, 0), -1000);
    }
}
