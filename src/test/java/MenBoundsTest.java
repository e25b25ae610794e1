/** Promises 22, 47 to 54: the least weight, WAVES, and MEN one by one, where they turn. */
public final class MenBoundsTest {
    private static final Due DUE = new Due("MenBoundsTest");
    private static final String WEAK = Harbours.man(40, 0, 0, 0, 2, "middle");
    private static final String STRONG = Harbours.man(200, 30, 30, 0, 2, "middle");
    private static final String FOUL = Harbours.man(40, 0, 0, 0, 2, "edge");

    public static void main(String[] args) {
        heavyEnough();
        heavyByFoul();
        waves();
        calmEach();
        champions();
        beatenBy();
        firstPass();
        rings();
        margins();
        fearedOnes();
        wearyFrom();
        DUE.close();
    }

    /** Promise 22: MAN 0 STANDS 5 and a tenth of his weight against FORCE 6 and what MAN 1 is quick. */
    private static void heavyEnough() {
        int[][] quickAndWeight = {{0, 40}, {3, 40}, {4, 50}, {5, 60}, {18, 190}, {19, 200}, {20, -1}, {30, -1}};
        for (int[] q : quickAndWeight) {
            for (int gap = 0; gap <= 12; gap += 3) {
                LongBoats x = Due.told(Harbours.still(gap, 3, Harbours.man(77, 5, 0, 9, 2, "middle"),
                        Harbours.man(40, 0, q[0], 9, 2, "middle")));
                DUE.due("22 quick " + q[0] + ", gap told " + gap, x.heavy(0, 1, 0, 1), q[1]);
                DUE.due("22 his weight stays", x.man(0, 0), 77);
            }
        }
    }

    /** Promise 22: (be it that he is out by a foul); who fouls does not thrust. */
    private static void heavyByFoul() {
        LongBoats x = Due.told(Harbours.still(3, 3, Harbours.man(77, 5, 0, 9, 2, "edge"),
                Harbours.man(40, 0, 30, 9, 2, "middle")));
        DUE.due("22 out by a foul, not thrust off", x.heavy(0, 1, 0, 1), 40);
        DUE.due("22 against one who fouls", x.heavy(1, 0, 0, 1), 40);
        x.train(0, 5, 1);
        DUE.due("22 no foul", x.heavy(0, 1, 0, 1), -1);
        DUE.due("22 one twice", x.heavy(1, 1, 0, 1), -2);
    }

    /** Promise 47, V: four times its oars by one more than the beats, cut. */
    private static void waves() {
        for (int oars = 2; oars <= 12; oars++) {
            LongBoats x = Due.told(Harbours.head(0, 0, 1) + Harbours.boat(oars, 0));
            for (int beats = 0; beats <= 60; beats++) {
                int left = 4 * oars;
                int wave = 0;
                while (left >= beats + 1) {
                    left -= beats + 1;
                    wave++;
                }
                DUE.due("47 oars " + oars + ", beats " + beats, x.wave(0, beats), wave);
            }
            DUE.due("47 beats one less than four times", x.wave(0, 4 * oars - 1), 1);
            DUE.due("47 as many beats", x.wave(0, 4 * oars), 0);
            DUE.due("47 beats 999", x.wave(0, 999), 0);
            DUE.due("47 beats 1,000", x.wave(0, 1000), -2);
            DUE.due("47 beats -1", x.wave(0, -1), -2);
            DUE.due("47 beats -2", x.wave(0, -2), -2);
        }
    }

    /** Promise 48: the fewest beats by which it is no more than n. */
    private static void calmEach() {
        for (int oars = 2; oars <= 12; oars++) {
            LongBoats x = Due.told(Harbours.head(0, 0, 1) + Harbours.boat(oars, 0));
            for (int n = 0; n <= 99; n++) {
                int beats = x.calm(0, n);
                DUE.due("48 no more than " + n + " of oars " + oars, x.wave(0, beats) <= n ? 1 : 0, 1);
                DUE.due("48 one fewer, n " + n + " of oars " + oars,
                        beats == 0 || x.wave(0, beats - 1) > n ? 1 : 0, 1);
            }
            DUE.due("48 n 0", x.calm(0, 0), 4 * oars);
            DUE.due("48 as much as at first", x.calm(0, 4 * oars), 0);
            DUE.due("48 one less than at first", x.calm(0, 4 * oars - 1), 1);
            DUE.due("48 n 99", x.calm(0, 99), 0);
            DUE.due("48 n 100", x.calm(0, 100), -2);
            DUE.due("48 n -1", x.calm(0, -1), -2);
        }
    }

    /** Promise 49: the least of several; NONE: there are no two MEN. */
    private static void champions() {
        DUE.due("49 no MEN", Due.told(Harbours.still(3, 3)).champion(0, 1), -1);
        DUE.due("49 one MAN", Due.told(Harbours.still(3, 3, WEAK)).champion(0, 1), -1);
        DUE.due("49 one MAN, no such BOAT", Due.told(Harbours.still(3, 3, WEAK)).champion(0, 2), -2);
        DUE.due("49 no BOATS", Due.told(Harbours.head(0, 3, 3) + WEAK + WEAK).champion(0, 0), -2);
        DUE.due("49 two alike", Due.told(Harbours.still(3, 3, WEAK, WEAK)).champion(0, 1), 0);
        DUE.due("49 two alike, both strong", Due.told(Harbours.still(3, 3, STRONG, STRONG)).champion(0, 1), 0);
        DUE.due("49 the second", Due.told(Harbours.still(3, 3, WEAK, STRONG)).champion(0, 1), 1);
        DUE.due("49 one BOAT twice", Due.told(Harbours.still(3, 3, WEAK, STRONG)).champion(1, 1), 1);
        DUE.due("49 at a crash nobody", Due.told(Harbours.still(1, 3, WEAK, STRONG)).champion(0, 1), 0);
        DUE.due("49 a foul is out", Due.told(Harbours.still(3, 3, FOUL, STRONG)).champion(0, 1), 1);
        // Against the two strong ones a weak one is out twice, who fouls three times, each strong one never.
        String[] men = {FOUL, WEAK, STRONG, STRONG};
        DUE.due("49 the least of several", Due.told(Harbours.still(3, 3, men)).champion(0, 1), 2);
        String[] ten = {WEAK, WEAK, WEAK, WEAK, WEAK, WEAK, WEAK, WEAK, WEAK, STRONG};
        LongBoats x = Due.told(Harbours.still(3, 3, ten));
        DUE.due("49 the tenth", x.champion(0, 1), 9);
        // SLIPS aside, and at the gap told: WIDE, who leans 4 falls against each.
        x.mend(0, 1, 4);
        x.rule(0, 5);
        x.train(0, 4, 4);
        DUE.due("49 wide", x.champion(0, 1), 1);
        for (int man = 0; man < 10; man++) {
            x.train(man, 4, 4);
        }
        DUE.due("49 all fall nine times", x.champion(0, 1), 0);
    }

    /** Promise 50: by how many MEN he is thrust off, no foul and no fall among them. */
    private static void beatenBy() {
        LongBoats one = Due.told(Harbours.still(3, 3, WEAK));
        DUE.due("50 by nobody there", one.beaten(0, 0, 1), 0);
        DUE.due("50 MAN 1 of one", one.beaten(1, 0, 1), -2);
        String[] ten = {WEAK, STRONG, STRONG, STRONG, STRONG, STRONG, STRONG, STRONG, STRONG, FOUL};
        LongBoats x = Due.told(Harbours.still(3, 3, ten));
        DUE.due("50 by all but who fouls", x.beaten(0, 0, 1), 8);
        DUE.due("50 by none", x.beaten(1, 0, 1), 0);
        DUE.due("50 fouls are no thrust", x.beaten(9, 0, 1), 0);
        x.train(9, 5, 0);
        DUE.due("50 by all, not himself", x.beaten(0, 0, 1), 9);
        DUE.due("50 by the first alone", Due.told(Harbours.still(3, 3, STRONG, WEAK)).beaten(1, 0, 1), 1);
        x.rule(0, 1);
        DUE.due("50 at a crash", x.beaten(0, 0, 1), 0);
        x.rule(0, 5);
        x.train(0, 4, 4);
        DUE.due("50 a fall is no thrust", x.beaten(0, 0, 1), 0);
    }

    /** Promises 49, 50, 53: in a first pass nobody is tired: 12 is more than 11, 10 is not more than 10. */
    private static void firstPass() {
        String quick = Harbours.man(100, 0, 6, 2, 2, "middle");
        String heavy = Harbours.man(110, 0, 4, 9, 2, "middle");
        LongBoats x = Due.told(Harbours.still(3, 3, heavy, quick));
        DUE.due("49 who tires less", x.champion(0, 1), 1);
        DUE.due("50 of 12 against 11", x.beaten(0, 0, 1), 1);
        DUE.due("50 of 10 against 10", x.beaten(1, 0, 1), 0);
        // Who tires has FORCE 7 against who has 6 throughout; one pass later he would have none.
        LongBoats y = Due.told(Harbours.still(3, 3, WEAK, WEAK, Harbours.man(40, 0, 1, 9, 2, "middle")));
        DUE.due("53 who is fresh", y.feared(0, 0, 1), 2);
        // By the corner 4 against 5 - 3 is one more than by the middle 6 against 5; of one tired, who STANDS
        // nothing, it would be less.
        LongBoats z = Due.told(Harbours.still(3, 3, Harbours.man(50, 0, 0, 9, 2, "middle"), WEAK,
                Harbours.man(40, 0, 0, 0, 2, "corner")));
        DUE.due("53 he is fresh", z.feared(0, 0, 1), 2);
        // FORCE 7 is more than 6, whoever tires more.
        LongBoats u = Due.told(Harbours.still(3, 3, WEAK, Harbours.man(40, 0, 1, 0, 2, "middle"),
                Harbours.man(40, 0, 0, 9, 2, "middle")));
        DUE.due("53 no fresher than fresh", u.feared(0, 0, 1), 1);
        // 6 against 2 is as much as 4 against 0, to which he is cut by the corner.
        LongBoats v = Due.told(Harbours.still(3, 3, Harbours.man(40, 0, 0, 9, 3, "middle"), WEAK,
                Harbours.man(40, 0, 0, 0, 2, "corner")));
        DUE.due("53 he is no fresher", v.feared(0, 0, 1), 1);
    }

    /** Promise 51: NONE: none. Of three whose FORCE goes round none can be, for each must be weaker than himself. */
    private static void rings() {
        DUE.due("51 no MEN", Due.told(Harbours.still(3, 3)).ring(0, 1), -1);
        DUE.due("51 two MEN", Due.told(Harbours.still(3, 3, WEAK, STRONG)).ring(0, 1), -1);
        DUE.due("51 three MEN", Due.told(Harbours.still(3, 3, WEAK, STRONG, FOUL)).ring(0, 1), -1);
        DUE.due("51 no such BOAT", Due.told(Harbours.still(3, 3, WEAK, STRONG, FOUL)).ring(0, 2), -2);
        DUE.due("51 as much as may be told", Due.told(Harbours.FULL).ring(0, 3), -1);
        DUE.due("51 no BOATS", Due.told(Harbours.head(0, 3, 3) + WEAK.repeat(3)).ring(0, 0), -2);
    }

    /** Promise 52: below 0, at its most and its least. */
    private static void margins() {
        LongBoats x = Due.told(Harbours.still(3, 3, Harbours.man(40, 0, 0, 1, 2, "middle"),
                Harbours.man(200, 30, 0, 0, 2, "middle")));
        DUE.due("52 6 less 50", x.margin(0, 1, 0, 1, 0), -44);
        DUE.due("52 0 less 50", x.margin(0, 1, 0, 1, 99), -50);
        DUE.due("52 6 less 4", x.margin(1, 0, 0, 1, 0), 2);
        DUE.due("52 both with so many passes: 6 less 3", x.margin(1, 0, 0, 1, 2), 3);
        x.train(1, 5, 1);
        DUE.due("52 by the corner: 4 less 1", x.margin(1, 0, 0, 1, 0), 3);
        x.train(1, 5, 2);
        DUE.due("52 by the edge: 2 less 4", x.margin(1, 0, 0, 1, 0), -2);
        x.train(0, 3, 0);
        x.train(1, 2, 1);
        DUE.due("52 3 less 4, no refusal", x.margin(1, 0, 0, 1, 99), -1);
        DUE.due("52 100 passes", x.margin(1, 0, 0, 1, 100), -1000);
        DUE.due("52 -1 passes", x.margin(1, 0, 0, 1, -1), -1000);
        DUE.due("52 one twice", x.margin(1, 1, 0, 1, 0), -1000);
        DUE.due("52 MAN 2", x.margin(2, 1, 0, 1, 0), -1000);
        DUE.due("52 BOAT 2", x.margin(0, 1, 2, 1, 0), -1000);
        DUE.due("52 no HARBOUR", new LongBoats().margin(0, 1, 0, 1, 0), -1000);
        x.rule(0, 0);
        DUE.due("52 whatever the gap", x.margin(1, 0, 0, 1, 0), -1);
        LongBoats most = Due.told(Harbours.head(0, 3, 3) + Harbours.boat(12, 0)
                + Harbours.man(200, 0, 30, 0, 4, "middle") + Harbours.man(40, 0, 0, 0, 2, "middle"));
        DUE.due("52 the most", most.margin(0, 1, 0, 0, 0), 62);
    }

    /** Promise 53: none who aims at the edge, not himself, the least of several; NONE: there is none. */
    private static void fearedOnes() {
        DUE.due("53 one MAN", Due.told(Harbours.still(3, 3, WEAK)).feared(0, 0, 1), -1);
        DUE.due("53 one who aims at the edge", Due.told(Harbours.still(3, 3, WEAK, FOUL)).feared(0, 0, 1), -1);
        DUE.due("53 all the others do", Due.told(Harbours.still(3, 3, FOUL, WEAK, FOUL)).feared(1, 0, 1), -1);
        DUE.due("53 he himself may", Due.told(Harbours.still(3, 3, FOUL, WEAK)).feared(0, 0, 1), 1);
        DUE.due("53 whose FORCE is far below", Due.told(Harbours.still(3, 3, STRONG, WEAK)).feared(0, 0, 1), 1);
        DUE.due("53 the least of several", Due.told(Harbours.still(3, 3, STRONG, WEAK, WEAK)).feared(0, 0, 1), 1);
        DUE.due("53 the last", Due.told(Harbours.still(3, 3, WEAK, WEAK, STRONG)).feared(0, 0, 1), 2);
        DUE.due("53 not himself", Due.told(Harbours.still(3, 3, WEAK, WEAK, STRONG)).feared(2, 0, 1), 0);
        // By the corner FORCE is 2 less and he STANDS 3 less: one more than by the middle.
        String corner = Harbours.man(40, 0, 0, 0, 2, "corner");
        DUE.due("53 by the corner", Due.told(Harbours.still(3, 3, STRONG, WEAK, corner)).feared(0, 0, 1), 2);
        // Who STANDS nothing has nothing more to lose by it.
        String loose = Harbours.man(40, 0, 0, 0, 4, "middle");
        DUE.due("53 0 at least", Due.told(Harbours.still(3, 3, loose, corner, WEAK)).feared(0, 0, 1), 2);
        DUE.due("53 whatever the gap", Due.told(Harbours.still(0, 3, WEAK, WEAK, STRONG)).feared(0, 0, 1), 2);
        DUE.due("53 MAN 2 of two", Due.told(Harbours.still(3, 3, WEAK, WEAK)).feared(2, 0, 1), -2);
        DUE.due("53 no HARBOUR", new LongBoats().feared(0, 0, 0), -2);
    }

    /** Promise 54: the fewest passes (0 .. 99) with which FORCE is no more; NONE: by none. */
    private static void wearyFrom() {
        // MAN 1 STANDS 10 with no passes; MAN 0's FORCE is 6 and quick, less tires a pass.
        int[][] quickTiresWeary = {{3, 1, 0}, {4, 1, 0}, {5, 1, 1}, {6, 1, 2}, {6, 2, 1}, {6, 9, 1}, {5, 0, -1},
            {4, 0, 0}, {30, 1, 26}, {30, 9, 3}, {30, 0, -1}};
        for (int[] q : quickTiresWeary) {
            LongBoats x = Due.told(Harbours.still(3, 3, Harbours.man(40, 0, q[0], q[1], 2, "middle"),
                    Harbours.man(100, 0, 0, 9, 2, "middle")));
            DUE.due("54 quick " + q[0] + ", tires " + q[1], x.weary(0, 1, 0, 1), q[2]);
        }
        // The most: FORCE 62 against one who STANDS nothing.
        LongBoats x = Due.told(Harbours.head(0, 3, 3) + Harbours.boat(12, 0)
                + Harbours.man(200, 0, 30, 1, 4, "middle") + Harbours.man(40, 0, 0, 0, 2, "middle"));
        DUE.due("54 the most", x.weary(0, 1, 0, 0), 62);
        x.train(0, 3, 0);
        DUE.due("54 by none of 99", x.weary(0, 1, 0, 0), -1);
        DUE.due("54 one twice", x.weary(0, 0, 0, 0), -2);
    }
}
