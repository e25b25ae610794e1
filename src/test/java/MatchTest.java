/** Promises 30 to 37: matches, orders, and what a TEAM is without a MAN. */
public final class MatchTest {
    private static final Due DUE = new Due("MatchTest");

    public static void main(String[] args) {
        LongBoats x = Due.told(Harbours.CREWS);
        asTold(x);
        orders(x);
        wrong(x);
        moreLeft();
        DUE.close();
    }

    /** The weak one is out, the strong one has out three and, worn out, nobody with the fourth. */
    private static void asTold(LongBoats x) {
        DUE.due("match winner", x.match(0, 1, 0), 2);
        DUE.due("match left", x.match(0, 1, 1), 0);
        DUE.due("match bouts", x.match(0, 1, 2), 5);
        int[][] led = {{0, 2, 1, 1}, {1, 2, 2, 1}, {1, 3, 2, 1}, {1, 4, 2, 1}, {1, 5, 0, 2}};
        for (int i = 0; i < 5; i++) {
            for (int what = 0; what < 4; what++) {
                DUE.due("led " + i + " " + what, x.led(0, 1, i, what), led[i][what]);
            }
        }
        DUE.due("led 5", x.led(0, 1, 5, 0), -1);
        DUE.due("led -1", x.led(0, 1, -1, 0), -1);
        int[] passed = {1, 5, 2, 1, 1, 2};
        for (int man = 0; man < 6; man++) {
            DUE.due("passed " + man, x.passed(0, 1, man), passed[man]);
        }
        DUE.due("match the other way", x.match(1, 0, 0), 2);
        DUE.due("led the other way", x.led(1, 0, 0, 2), 2);
        // TEAM 3 is the strong one alone, TEAM 1 has four.
        DUE.due("match 3 1", x.match(3, 1, 0), 2);
        DUE.due("match 3 1 bouts", x.match(3, 1, 2), 4);
        DUE.due("passed, not in it", x.passed(3, 1, 0), -2);
        x.swap(0, 0, 1);
        DUE.due("match swapped", x.match(0, 1, 0), 0);
        DUE.due("match swapped, left", x.match(0, 1, 1), 1);
        DUE.due("match swapped, bouts", x.match(0, 1, 2), 4);
        DUE.due("he did not come", x.passed(0, 1, 0), 0);
        DUE.due("the second one wins", x.match(1, 0, 0), 1);
        DUE.due("the second one's left", x.match(1, 0, 1), 1);
        x.swap(0, 0, 1);
    }

    private static void orders(LongBoats x) {
        DUE.due("wins", x.wins(0, 1), 1);
        DUE.due("wins 1 0", x.wins(1, 0), 0);
        DUE.due("order 0", x.order(0, 1, 0), 1);
        DUE.due("order 1", x.order(0, 1, 1), 0);
        DUE.due("order 2", x.order(0, 1, 2), -1);
        DUE.due("order -1", x.order(0, 1, -1), -1);
        DUE.due("order 1 0, the least row", x.order(1, 0, 0) * 1000 + x.order(1, 0, 1) * 100
                + x.order(1, 0, 2) * 10 + x.order(1, 0, 3), 2345);
        DUE.due("bold -1", x.bold(0, 1, -1), 24);
        DUE.due("bold 0", x.bold(0, 1, 0), 1);
        DUE.due("bold 1", x.bold(0, 1, 1), 0);
        DUE.due("bold 2", x.bold(0, 1, 2), -1);
        DUE.due("bold -2", x.bold(0, 1, -2), -1);
        DUE.due("bold 1 0", x.bold(1, 0, -1), 0);
        DUE.due("bold 1 0, the least row", x.bold(1, 0, 3), 5);
        DUE.due("sure", x.sure(0, 1), 1);
        DUE.due("sure 1 0", x.sure(1, 0), 0);
        DUE.due("pillar", x.pillar(0, 1), 1);
        // Without any of the four the strong one has three out: it comes off alike.
        DUE.due("pillar, the first of several", x.pillar(1, 0), 2);
        x.swap(1, 0, 3);
        DUE.due("pillar, the first as told", x.pillar(1, 0), 5);
        x.swap(1, 0, 3);
        DUE.due("pillar of one", x.pillar(3, 1), -1);
        DUE.due("all stays", x.team(0, 0) * 10 + x.team(0, 1), 1);
    }

    private static void wrong(LongBoats x) {
        int[][] pairs = {{0, 0}, {0, 4}, {-1, 1}, {4, 0}, {0, 2}, {2, 1}, {0, 3}};
        for (int[] p : pairs) {
            String of = " of " + p[0] + ", " + p[1];
            DUE.due("match" + of, x.match(p[0], p[1], 0), -2);
            DUE.due("passed" + of, x.passed(p[0], p[1], 1), -2);
            DUE.due("led" + of, x.led(p[0], p[1], 0, 0), -2);
            DUE.due("wins" + of, x.wins(p[0], p[1]), -2);
            DUE.due("order" + of, x.order(p[0], p[1], 9), -2);
            DUE.due("bold" + of, x.bold(p[0], p[1], 9), -2);
            DUE.due("sure" + of, x.sure(p[0], p[1]), -2);
            DUE.due("pillar" + of, x.pillar(p[0], p[1]), -2);
            DUE.due("day" + of, x.day(0, p[0], p[1], 0), -2);
        }
        DUE.due("match what 3", x.match(0, 1, 3), -2);
        DUE.due("match what -1", x.match(0, 1, -1), -2);
        DUE.due("led what 4", x.led(0, 1, 0, 4), -2);
        DUE.due("led what 4, no BOUT", x.led(0, 1, 9, 4), -2);
        DUE.due("passed man 6", x.passed(0, 1, 6), -2);
        DUE.due("passed man -1", x.passed(0, 1, -1), -2);
    }

    /** Five against five who are all alike: each BOUT has both out; and five who have a foul each. */
    private static void moreLeft() {
        String man = "man weight 40 skill 0 quick 0 tires 0 leans 2 aims middle;";
        String foul = "man weight 40 skill 0 quick 0 tires 0 leans 2 aims edge;";
        LongBoats x = Due.told("harbour stream 0 gap 3 passes 7;boat oars 2 slip 4;boat oars 12 slip 4;"
                + man.repeat(5) + foul.repeat(5) + "team 0 4 3 2 1 0;team 1 5 6 7 8 9;");
        DUE.due("five fouls", x.match(0, 1, 1), 5);
        DUE.due("five bouts", x.match(0, 1, 2), 5);
        DUE.due("wins by all", x.wins(0, 1), 120);
        DUE.due("bold by all", x.bold(0, 1, -1), 120);
        DUE.due("bold, the least row", x.bold(0, 1, 0), 0);
        DUE.due("order, the least row", x.order(0, 1, 4), 4);
        DUE.due("sure", x.sure(0, 1), 1);
        DUE.due("pillar as told", x.pillar(0, 1), 4);
        DUE.due("wins of none", x.wins(1, 0), 0);
        for (int i = 5; i < 10; i++) {
            x.train(i, 5, 0);
        }
        DUE.due("both out five times", x.match(0, 1, 0), 2);
        DUE.due("both out five times, bouts", x.match(0, 1, 2), 5);
        DUE.due("both out", x.led(0, 1, 4, 2), 3);
        x.rule(0, 0);
        DUE.due("crashes", x.match(0, 1, 0), 2);
        DUE.due("crashes, passes", x.led(0, 1, 4, 3), 7);
        DUE.due("crashes, result", x.led(0, 1, 4, 2), 0);
    }
}
