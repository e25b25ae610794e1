/** Promises 9 to 14 and the Terms' II: what is 0 at least, what is cut, where a PASS turns. */
public final class PassBoundsTest {
    private static final Due DUE = new Due("PassBoundsTest");
    private static final int WEIGHT = 0;
    private static final int SKILL = 1;
    private static final int QUICK = 2;
    private static final int TIRES = 3;
    private static final int LEANS = 4;
    private static final int AIMS = 5;
    private static final int MIDDLE = 0;
    private static final int CORNER = 1;
    private static final int EDGE = 2;

    public static void main(String[] args) {
        speeds();
        forces();
        standsCut();
        standsByLeanAndAim();
        standsNothing();
        reaches();
        wideOnes();
        fouls();
        moreForce();
        passesOfBoth();
        boutsEnd();
        boutsTire();
        DUE.close();
    }

    /** II: their oars together less the stream, 0 at least (one twice, too). */
    private static void speeds() {
        LongBoats x = Due.told(Harbours.head(9, 3, 3) + Harbours.boat(4, 1) + Harbours.boat(5, 0));
        DUE.due("9 as many as the stream", x.speed(0, 1), 0);
        DUE.due("9 one less", x.speed(0, 0), 0);
        DUE.due("9 one more", x.speed(1, 1), 1);
        x.mend(0, 0, 2);
        DUE.due("9 far less", x.speed(0, 0), 0);
        DUE.due("9 two less", x.speed(0, 1), 0);
        DUE.due("9 the other way", x.speed(1, 0), 0);
        x.mend(0, 0, 12);
        x.mend(1, 0, 12);
        DUE.due("9 most oars", x.speed(0, 1), 15);
        x.rule(1, 0);
        DUE.due("9 no stream", x.speed(0, 1), 24);
        DUE.due("9 one twice", x.speed(1, 1), 24);
    }

    /** II: FORCE, 0 at least. */
    private static void forces() {
        LongBoats x = Due.told(Harbours.still(3, 3, Harbours.man(40, 0, 5, 1, 0, "edge")));
        int[] force = {5, 4, 3, 2, 1, 0, 0, 0};
        for (int passes = 0; passes < force.length; passes++) {
            DUE.due("10 force with passes " + passes, x.force(0, 0, 1, passes), force[passes]);
        }
        DUE.due("10 with 99 passes", x.force(0, 0, 1, 99), 0);
        x.train(0, TIRES, 0);
        DUE.due("10 who does not tire", x.force(0, 0, 1, 99), 5);
        x.train(0, AIMS, MIDDLE);
        DUE.due("10 by the middle", x.force(0, 0, 1, 0), 9);
        x.train(0, AIMS, CORNER);
        DUE.due("10 by the corner", x.force(0, 0, 1, 0), 7);
        for (int leans = 0; leans <= 4; leans++) {
            x.train(0, LEANS, leans);
            DUE.due("10 leans " + leans, x.force(0, 0, 1, 0), 7 + leans);
        }
        x.train(0, QUICK, 0);
        x.train(0, LEANS, 0);
        x.train(0, AIMS, EDGE);
        DUE.due("10 the least", x.force(0, 0, 1, 0), 0);
        x.train(0, TIRES, 9);
        DUE.due("10 no less", x.force(0, 0, 1, 99), 0);
        x.train(0, QUICK, 30);
        DUE.due("10 tires 9, 3 passes", x.force(0, 0, 1, 3), 3);
        DUE.due("10 tires 9, 4 passes", x.force(0, 0, 1, 4), 0);
        x.train(0, LEANS, 4);
        x.train(0, AIMS, MIDDLE);
        x.rule(1, 0);
        x.mend(0, 0, 12);
        x.mend(1, 0, 12);
        DUE.due("10 the most", x.force(0, 0, 1, 0), 62);
        DUE.due("10 one BOAT twice", x.force(0, 0, 0, 0), 62);
    }

    /** II: a tenth of his weight, half the SPEED, half of tires times the passes, each cut. */
    private static void standsCut() {
        LongBoats x = Due.told(Harbours.still(3, 3, Harbours.man(40, 0, 0, 0, 2, "middle"),
                Harbours.man(40, 0, 0, 0, 2, "middle")));
        int[][] weights = {{40, 4}, {41, 4}, {49, 4}, {50, 5}, {59, 5}, {99, 9}, {100, 10}, {199, 19}, {200, 20}};
        for (int[] w : weights) {
            x.train(0, WEIGHT, w[0]);
            DUE.due("11 weight " + w[0], x.stands(0, 1, 0, 1, 0), w[1]);
        }
        x.train(0, SKILL, 30);
        DUE.due("11 the most", x.stands(0, 1, 0, 1, 0), 50);
        DUE.due("11 the most with 99 passes", x.stands(0, 1, 0, 1, 99), 50);
        x.train(0, WEIGHT, 40);
        x.train(0, SKILL, 10);
        int[] bySpeed = {14, 14, 13, 13, 12};
        for (int speed = 0; speed <= 4; speed++) {
            x.rule(1, 4 - speed);
            DUE.due("11 SPEED " + speed, x.stands(0, 1, 0, 1, 0), bySpeed[speed]);
        }
        x.rule(1, 4);
        int[] tiresOne = {14, 14, 13, 13, 12, 12};
        int[] tiresThree = {14, 13, 11, 10, 8, 7};
        int[] tiresNine = {14, 10, 5, 1, 0, 0};
        for (int passes = 0; passes <= 5; passes++) {
            x.train(0, TIRES, 1);
            DUE.due("11 tires 1, passes " + passes, x.stands(0, 1, 0, 1, passes), tiresOne[passes]);
            x.train(0, TIRES, 3);
            DUE.due("11 tires 3, passes " + passes, x.stands(0, 1, 0, 1, passes), tiresThree[passes]);
            x.train(0, TIRES, 9);
            DUE.due("11 tires 9, passes " + passes, x.stands(0, 1, 0, 1, passes), tiresNine[passes]);
        }
        // Both halves are cut apart: SPEED 1 and a pass of one who tires by 1 take nothing.
        x.rule(1, 3);
        x.train(0, TIRES, 1);
        DUE.due("11 cut apart", x.stands(0, 1, 0, 1, 1), 14);
        DUE.due("11 cut apart, 2 passes", x.stands(0, 1, 0, 1, 2), 13);
        x.train(0, WEIGHT, 49);
        DUE.due("11 nothing of a tenth is kept", x.stands(0, 1, 0, 1, 1), 14);
    }

    /** II: less twice by how much he leans more or less than 2, less 3, if the other one aims at the corner. */
    private static void standsByLeanAndAim() {
        LongBoats x = Due.told(Harbours.still(3, 3, Harbours.man(100, 10, 0, 0, 2, "middle"),
                Harbours.man(40, 0, 0, 0, 2, "middle")));
        int[] byLean = {16, 18, 20, 18, 16};
        for (int leans = 0; leans <= 4; leans++) {
            x.train(0, LEANS, leans);
            DUE.due("11 leans " + leans, x.stands(0, 1, 0, 1, 0), byLean[leans]);
            x.train(1, LEANS, leans);
            DUE.due("11 the other one leans " + leans, x.stands(0, 1, 0, 1, 0), byLean[leans]);
        }
        x.train(0, LEANS, 2);
        int[] byAim = {20, 17, 20};
        for (int aims = MIDDLE; aims <= EDGE; aims++) {
            x.train(1, AIMS, aims);
            DUE.due("11 the other one aims " + aims, x.stands(0, 1, 0, 1, 0), byAim[aims]);
            x.train(0, AIMS, aims);
            DUE.due("11 he aims " + aims, x.stands(0, 1, 0, 1, 0), byAim[aims]);
        }
    }

    /** II: 0 at least. */
    private static void standsNothing() {
        LongBoats x = Due.told(Harbours.still(3, 3, Harbours.man(40, 1, 0, 0, 4, "middle"),
                Harbours.man(40, 0, 0, 0, 2, "middle")));
        DUE.due("11 one", x.stands(0, 1, 0, 1, 0), 1);
        x.train(0, SKILL, 0);
        DUE.due("11 nothing", x.stands(0, 1, 0, 1, 0), 0);
        x.train(1, AIMS, CORNER);
        DUE.due("11 three less than nothing", x.stands(0, 1, 0, 1, 0), 0);
        x.train(0, SKILL, 3);
        DUE.due("11 nothing by the corner", x.stands(0, 1, 0, 1, 0), 0);
        x.train(0, SKILL, 4);
        DUE.due("11 one by the corner", x.stands(0, 1, 0, 1, 0), 1);
        x.train(0, TIRES, 9);
        DUE.due("11 far below", x.stands(0, 1, 0, 1, 99), 0);
    }

    /** What gap is what: a CRASH, a TOUCH (where a foul is one), WIDE (where who leans 4 falls). */
    private static void kinds(int from, int to) {
        LongBoats x = Due.told(Harbours.still(3, 3, Harbours.man(40, 0, 0, 0, 4, "edge"),
                Harbours.man(40, 0, 0, 0, 2, "middle")) + "reach " + from + " to " + to + ";");
        for (int gap = 0; gap <= 20; gap++) {
            int why = gap < from ? 0 : gap > to ? 1 : 2;
            String at = " at " + gap + " of reach " + from + " to " + to;
            DUE.due("13 why" + at, x.why(0, 1, 0, 1, 0, gap), why);
            DUE.due("12 pass" + at, x.pass(0, 1, 0, 1, 0, gap), why == 0 ? 0 : 1);
            DUE.due("12 pass the other way" + at, x.pass(1, 0, 0, 1, 0, gap), why == 0 ? 0 : 2);
        }
        DUE.due("12 gap 21", x.pass(0, 1, 0, 1, 0, 21), -2);
        DUE.due("12 gap -1", x.pass(0, 1, 0, 1, 0, -1), -2);
    }

    /** II: CRASH below reach; WIDE above; TOUCH. */
    private static void reaches() {
        for (int from = 0; from <= 12; from++) {
            for (int to = from; to <= 12; to++) {
                kinds(from, to);
            }
        }
        LongBoats x = Due.told(Harbours.still(3, 3, Harbours.man(40, 0, 0, 0, 4, "edge"),
                Harbours.man(40, 0, 0, 0, 2, "middle")));
        int[] why = {0, 0, 2, 2, 2, 1};
        for (int gap = 0; gap < why.length; gap++) {
            DUE.due("13 without a reach, at " + gap, x.why(0, 1, 0, 1, 0, gap), why[gap]);
        }
    }

    /** II: WIDE: who leans 4 falls by himself, and nobody else is out. */
    private static void wideOnes() {
        LongBoats x = Due.told(Harbours.still(3, 3, Harbours.man(40, 0, 30, 0, 2, "middle"),
                Harbours.man(40, 0, 30, 0, 2, "middle")));
        for (int one = 0; one <= 4; one++) {
            for (int two = 0; two <= 4; two++) {
                x.train(0, LEANS, one);
                x.train(1, LEANS, two);
                int result = (one == 4 ? 1 : 0) + (two == 4 ? 2 : 0);
                DUE.due("12 wide, leaning " + one + " and " + two, x.pass(0, 1, 0, 1, 0, 5), result);
                DUE.due("13 wide, leaning " + one + " and " + two, x.why(0, 1, 0, 1, 0, 5), one == 4 ? 1 : 0);
                DUE.due("12 crash, leaning " + one + " and " + two, x.pass(0, 1, 0, 1, 0, 1), 0);
            }
        }
    }

    /** II: TOUCH: who aims at the edge is out (a foul) and does not thrust. */
    private static void fouls() {
        LongBoats x = Due.told(Harbours.still(3, 3, Harbours.man(40, 0, 30, 0, 2, "edge"),
                Harbours.man(40, 0, 30, 0, 2, "middle")));
        DUE.due("12 a foul", x.pass(0, 1, 0, 1, 0, 2), 1);
        DUE.due("13 a foul, not thrust off", x.why(0, 1, 0, 1, 0, 2), 2);
        DUE.due("13 who fouls does not thrust", x.why(1, 0, 0, 1, 0, 2), 0);
        DUE.due("12 none at a crash", x.pass(0, 1, 0, 1, 0, 1), 0);
        DUE.due("12 none when wide", x.pass(0, 1, 0, 1, 0, 5), 0);
        x.train(1, AIMS, EDGE);
        DUE.due("12 two fouls", x.pass(0, 1, 0, 1, 0, 4), 3);
        DUE.due("13 the first one's", x.why(0, 1, 0, 1, 0, 4), 2);
        x.train(0, LEANS, 4);
        DUE.due("13 by himself when wide", x.why(0, 1, 0, 1, 0, 5), 1);
        DUE.due("13 a foul at a touch", x.why(0, 1, 0, 1, 0, 4), 2);
        x.train(0, AIMS, CORNER);
        x.train(1, AIMS, CORNER);
        DUE.due("12 both thrust off", x.pass(0, 1, 0, 1, 0, 4), 3);
        DUE.due("13 thrust off", x.why(0, 1, 0, 1, 0, 4), 3);
    }

    /** II: with more FORCE than he STANDS: as much does not do. MAN 1 has FORCE 16, MAN 0 6. */
    private static void moreForce() {
        LongBoats x = Due.told(Harbours.still(3, 3, Harbours.man(100, 5, 0, 0, 2, "middle"),
                Harbours.man(200, 30, 10, 0, 2, "middle")));
        DUE.due("stands 15", x.stands(0, 1, 0, 1, 0), 15);
        DUE.due("12 one more", x.pass(0, 1, 0, 1, 0, 3), 1);
        DUE.due("13 one more", x.why(0, 1, 0, 1, 0, 3), 3);
        x.train(0, SKILL, 6);
        DUE.due("12 as much", x.pass(0, 1, 0, 1, 0, 3), 0);
        DUE.due("13 as much", x.why(0, 1, 0, 1, 0, 3), 0);
        x.train(0, SKILL, 7);
        DUE.due("12 one less", x.pass(0, 1, 0, 1, 0, 3), 0);
        // No FORCE at all has nobody out who STANDS nothing; a FORCE of 1 has.
        LongBoats y = Due.told(Harbours.still(3, 3, Harbours.man(40, 0, 0, 9, 4, "middle"),
                Harbours.man(40, 0, 0, 9, 4, "middle")));
        DUE.due("12 nothing against nothing", y.pass(0, 1, 0, 1, 1, 3), 0);
        y.train(0, QUICK, 2);
        DUE.due("force 1", y.force(0, 0, 1, 1), 1);
        DUE.due("12 one against nothing", y.pass(0, 1, 0, 1, 1, 3), 2);
    }

    /** Promise 12: both with so many passes. */
    private static void passesOfBoth() {
        LongBoats x = Due.told(Harbours.still(3, 3, Harbours.man(100, 6, 0, 2, 2, "middle"),
                Harbours.man(200, 30, 10, 1, 2, "middle")));
        // MAN 1's FORCE is 16 - p, MAN 0 STANDS 16 - p.
        for (int passes = 0; passes <= 20; passes++) {
            DUE.due("12 alike with passes " + passes, x.pass(0, 1, 0, 1, passes, 3), 0);
        }
        x.train(0, TIRES, 3);
        DUE.due("12 3 passes, 16 less 4 against 13", x.pass(0, 1, 0, 1, 3, 3), 1);
        DUE.due("12 1 pass, 16 less 1 against 15", x.pass(0, 1, 0, 1, 1, 3), 0);
        DUE.due("12 99 passes", x.pass(0, 1, 0, 1, 99, 3), 0);
        DUE.due("12 100 passes", x.pass(0, 1, 0, 1, 100, 3), -2);
    }

    /**
     * II: BOUT: till one is out, or as many as passes are over. MAN 1's FORCE is 16 throughout, MAN 0 STANDS
     * 16 and so much more, less one a pass: he is out in the pass of that number and 1.
     */
    private static void boutsEnd() {
        for (int more = -1; more <= 8; more++) {
            for (int passes = 1; passes <= 7; passes++) {
                LongBoats x = Due.told(Harbours.still(3, passes, Harbours.man(100, 6 + more, 0, 2, 2, "middle"),
                        Harbours.man(200, 30, 10, 0, 2, "middle")));
                boolean out = more + 1 < passes;
                String of = " with " + more + " more, of " + passes;
                DUE.due("14 result" + of, x.bout(0, 1, 0, 1, 0), out ? 1 : 0);
                DUE.due("14 in which pass" + of, x.bout(0, 1, 0, 1, 1), out ? more + 1 : -1);
                DUE.due("14 the other way" + of, x.bout(1, 0, 0, 1, 0), out ? 2 : 0);
            }
        }
        LongBoats x = Due.told(Harbours.still(1, 7, Harbours.man(40, 0, 30, 0, 4, "edge"),
                Harbours.man(40, 0, 30, 0, 4, "edge")));
        DUE.due("14 crashes", x.bout(0, 1, 0, 1, 0) * 10 + x.bout(0, 1, 0, 1, 1), -1);
        x.rule(0, 2);
        DUE.due("14 the gap told, a touch", x.bout(0, 1, 0, 1, 0) * 10 + x.bout(0, 1, 0, 1, 1), 30);
        x.rule(0, 12);
        DUE.due("14 the gap told, wide", x.bout(0, 1, 0, 1, 0) * 10 + x.bout(0, 1, 0, 1, 1), 30);
    }

    /** II: passes at the gap told, each MAN one more pass each time: MAN 0 wears off before he is thrust off. */
    private static void boutsTire() {
        // FORCE of MAN 1 is 20 - 2p; MAN 0 STANDS 20 less half of 5p: 20, 18, 15, 13: 18 is no more than 18, 16 is.
        LongBoats x = Due.told(Harbours.still(3, 7, Harbours.man(100, 10, 0, 5, 2, "middle"),
                Harbours.man(200, 30, 14, 2, 2, "middle")));
        DUE.due("14 result", x.bout(0, 1, 0, 1, 0), 1);
        DUE.due("14 in pass 2", x.bout(0, 1, 0, 1, 1), 2);
        x.rule(2, 3);
        DUE.due("14 in the last pass", x.bout(0, 1, 0, 1, 1), 2);
        x.rule(2, 2);
        DUE.due("14 one pass too few", x.bout(0, 1, 0, 1, 1), -1);
        DUE.due("14 nobody is out", x.bout(0, 1, 0, 1, 0), 0);
        DUE.due("14 what -1", x.bout(0, 1, 0, 1, -1), -2);
        DUE.due("14 what 2", x.bout(0, 1, 0, 1, 2), -2);
    }
}
