/** Promises 30 to 37 and the Terms' IV: TEAMS of one and of five, MATCHES that none wins, the first of several. */
public final class MatchBoundsTest {
    private static final Due DUE = new Due("MatchBoundsTest");
    /** FORCE 6, STANDS 4: two of these have one another out. */
    private static final String WEAK = Harbours.man(40, 0, 0, 0, 2, "middle");
    /** FORCE 6, STANDS 10: has a weak one out, and with one of his kind nobody is. */
    private static final String EVEN = Harbours.man(100, 0, 0, 0, 2, "middle");
    /** FORCE 36, STANDS 50: has all out but one of his kind. */
    private static final String STRONG = Harbours.man(200, 30, 30, 0, 2, "middle");
    /** FORCE 18 and then 9, STANDS 20 and then 16: has all but the strong out, later the weak alone. */
    private static final String TIRING = Harbours.man(100, 10, 12, 9, 2, "middle");

    public static void main(String[] args) {
        oneAgainstOne();
        nobodyIsOut();
        fiveLeft();
        nineBouts();
        passesCountOn();
        didNotCome();
        boutsAsked();
        allOrdersWin();
        orderRanks();
        orderOfTies();
        boldOfSome();
        boldOfTies();
        boldOfTired();
        allAreLost();
        pillars();
        pillarOfTies();
        whoCanMeet();
        boatsOfTeams();
        DUE.close();
    }

    private static LongBoats teams(int passes, String men, String teams) {
        return Due.told(Harbours.still(3, passes, men) + teams);
    }

    private static void match(String of, LongBoats x, int winner, int left, int bouts) {
        DUE.due("30 winner " + of, x.match(0, 1, 0), winner);
        DUE.due("30 left " + of, x.match(0, 1, 1), left);
        DUE.due("30 bouts " + of, x.match(0, 1, 2), bouts);
        DUE.due("30 winner the other way " + of, x.match(1, 0, 0), winner == 2 ? 2 : 1 - winner);
        DUE.due("30 left the other way " + of, x.match(1, 0, 1), left);
        DUE.due("30 bouts the other way " + of, x.match(1, 0, 2), bouts);
        DUE.due("30 what -1 " + of, x.match(0, 1, -1), -2);
        DUE.due("30 what 3 " + of, x.match(0, 1, 3), -2);
    }

    /** IV: it ends when one has none left: the other one wins (neither, if that has none, too). */
    private static void oneAgainstOne() {
        match("both out", teams(3, WEAK + WEAK, "team 0 0;team 1 1;"), 2, 0, 1);
        match("one out", teams(3, STRONG + WEAK, "team 0 0;team 1 1;"), 0, 1, 1);
        match("the other out", teams(3, WEAK + STRONG, "team 0 0;team 1 1;"), 1, 1, 1);
        match("nobody out", teams(3, EVEN + EVEN, "team 0 0;team 1 1;"), 2, 0, 1);
        match("one against two weak", teams(3, STRONG + WEAK + WEAK, "team 0 0;team 1 1 2;"), 0, 1, 2);
        match("both out, one left", teams(3, WEAK + WEAK + WEAK, "team 0 0;team 1 1 2;"), 1, 1, 1);
        match("two left", teams(3, WEAK + WEAK + STRONG + WEAK, "team 0 0 1;team 1 2 3;"), 1, 2, 2);
    }

    /** IV: both are followed, if a BOUT ends so that nobody is out. */
    private static void nobodyIsOut() {
        LongBoats x = teams(7, EVEN + EVEN + EVEN, "team 0 0;team 1 1 2;");
        match("one left, nobody out", x, 1, 1, 1);
        DUE.due("32 RESULT", x.led(0, 1, 0, 2), 0);
        DUE.due("32 passes, as many as told", x.led(0, 1, 0, 3), 7);
        DUE.due("31 passes, as many as told", x.passed(0, 1, 0), 7);
        DUE.due("31 who did not come", x.passed(0, 1, 2), 0);
        match("five and five, nobody out", teams(1, EVEN.repeat(10), "team 0 0 1 2 3 4;team 1 5 6 7 8 9;"), 2, 0, 5);
        match("five and four, nobody out", teams(1, EVEN.repeat(10), "team 0 0 1 2 3 4;team 1 5 6 7 8;"), 0, 1, 4);
        match("five and one, nobody out", teams(1, EVEN.repeat(10), "team 0 0 1 2 3 4;team 1 5;"), 0, 4, 1);
    }

    /** Five left: the first of them is never out. */
    private static void fiveLeft() {
        LongBoats x = teams(3, STRONG + WEAK.repeat(9), "team 0 0 1 2 3 4;team 1 5 6 7 8 9;");
        match("five left", x, 0, 5, 5);
        DUE.due("31 he had five", x.passed(0, 1, 0), 5);
        DUE.due("31 the next did not come", x.passed(0, 1, 1), 0);
        DUE.due("31 the last of the others had one", x.passed(0, 1, 9), 1);
    }

    /**
     * As many BOUTS as there may be: a fresh one has a tired one out, and two fresh ones nobody, but for the
     * first, who has the first of the others out.
     */
    private static void nineBouts() {
        String first = Harbours.man(100, 10, 15, 9, 2, "middle");
        LongBoats x = teams(1, first + TIRING.repeat(9), "team 0 0 1 2 3 4;team 1 5 6 7 8 9;");
        match("nine", x, 0, 1, 9);
        for (int i = 0; i < 9; i++) {
            DUE.due("32 the first TEAM's of " + i, x.led(0, 1, i, 0), i / 2);
            DUE.due("32 the second one's of " + i, x.led(0, 1, i, 1), 5 + (i + 1) / 2);
            DUE.due("32 RESULT of " + i, x.led(0, 1, i, 2), i % 2 == 0 ? 2 : 1);
            DUE.due("32 passes of " + i, x.led(0, 1, i, 3), 1);
        }
        for (int what = 0; what <= 3; what++) {
            DUE.due("32 BOUT 9", x.led(0, 1, 9, what), -1);
            DUE.due("32 BOUT 10", x.led(0, 1, 10, what), -1);
            DUE.due("32 BOUT -1", x.led(0, 1, -1, what), -1);
        }
        int[] passed = {2, 2, 2, 2, 1, 1, 2, 2, 2, 2};
        for (int man = 0; man < 10; man++) {
            DUE.due("31 MAN " + man, x.passed(0, 1, man), passed[man]);
        }
    }

    /** IV: passes of each counted on. */
    private static void passesCountOn() {
        // FORCE 6 throughout against 11 - p: each of the four is out in the last of seven passes.
        LongBoats x = teams(7, STRONG + Harbours.man(110, 0, 0, 2, 2, "middle").repeat(4), "team 0 0;team 1 1 2 3 4;");
        x.train(0, 2, 0);
        match("seven each", x, 0, 1, 4);
        DUE.due("31 seven each", x.passed(0, 1, 0), 28);
        DUE.due("31 of the last", x.passed(0, 1, 4), 7);
        DUE.due("32 of the last", x.led(0, 1, 3, 3), 7);
        x.rule(2, 6);
        match("six do not do", x, 1, 3, 1);
        // MAN 0 has FORCE 12 - 2p against 4, and STANDS 10 - p against 6: with 4 passes he has nobody out, with 5
        // he is out, though no BOUT has so many.
        LongBoats y = teams(7, Harbours.man(100, 0, 6, 2, 2, "middle") + WEAK.repeat(5), "team 0 0;team 1 1 2 3 4 5;");
        match("counted on", y, 1, 1, 5);
        DUE.due("32 the last one's RESULT", y.led(0, 1, 4, 2), 1);
        DUE.due("32 the last one's passes", y.led(0, 1, 4, 3), 2);
        DUE.due("31 his", y.passed(0, 1, 0), 6);
        DUE.due("31 the last one's", y.passed(0, 1, 5), 2);
    }

    /** Promise 31: 0: he did not come; -2: he is in neither. */
    private static void didNotCome() {
        LongBoats x = teams(3, STRONG + WEAK.repeat(5), "team 0 0 1;team 1 2 3;team 1 4;");
        int[] passed = {2, 0, 1, 1, -2, -2, -2};
        for (int man = 0; man < 7; man++) {
            DUE.due("31 MAN " + man, x.passed(0, 1, man), passed[man]);
            DUE.due("31 MAN " + man + " the other way", x.passed(1, 0, man), passed[man]);
        }
        DUE.due("31 MAN -1", x.passed(0, 1, -1), -2);
        DUE.due("31 MAN MIN", x.passed(0, 1, Integer.MIN_VALUE), -2);
        DUE.due("31 MAN MAX", x.passed(0, 1, Integer.MAX_VALUE), -2);
        DUE.due("31 TEAM 3", x.passed(0, 3, 0), -2);
        DUE.due("31 TEAM -1", x.passed(-1, 0, 0), -2);
        DUE.due("31 one TEAM twice", x.passed(0, 0, 0), -2);
        DUE.due("31 of another TEAM", x.passed(0, 2, 4), 1);
    }

    /** Promise 32: NONE: there is none such; -2, no such what. */
    private static void boutsAsked() {
        LongBoats x = teams(3, STRONG + WEAK.repeat(3), "team 0 0;team 1 1 2 3;");
        for (int i = 0; i < 3; i++) {
            DUE.due("32 the second one's of " + i, x.led(0, 1, i, 1), i + 1);
            DUE.due("32 what 4 of " + i, x.led(0, 1, i, 4), -2);
            DUE.due("32 what -1 of " + i, x.led(0, 1, i, -1), -2);
        }
        DUE.due("32 BOUT 3", x.led(0, 1, 3, 0), -1);
        DUE.due("32 BOUT 3, what 4", x.led(0, 1, 3, 4), -2);
        DUE.due("32 BOUT MAX", x.led(0, 1, Integer.MAX_VALUE, 0), -1);
        DUE.due("32 BOUT MIN", x.led(0, 1, Integer.MIN_VALUE, 3), -1);
        DUE.due("32 BOUT 2^30, which by four is none", x.led(0, 1, 1 << 30, 0), -1);
    }

    /** Promise 33: by all 120 orders, by none; of one MAN there is one order. */
    private static void allOrdersWin() {
        LongBoats x = teams(3, WEAK.repeat(4) + STRONG + WEAK.repeat(5), "team 0 2 4 1 0 3;team 1 5 6 7 8 9;");
        DUE.due("33 all orders", x.wins(0, 1), 120);
        DUE.due("33 no order", x.wins(1, 0), 0);
        DUE.due("35 against all orders", x.bold(0, 1, -1), 120);
        DUE.due("35 against none", x.bold(1, 0, -1), 0);
        DUE.due("36 sure", x.sure(0, 1), 1);
        DUE.due("36 not sure", x.sure(1, 0), 0);
        // The best order has the strong one first; bold is the least row of all.
        int[] best = {4, 0, 1, 2, 3};
        for (int i = 0; i < 5; i++) {
            DUE.due("34 MAN " + i, x.order(0, 1, i), best[i]);
            DUE.due("35 MAN " + i, x.bold(0, 1, i), i);
            DUE.due("34 the least row of losers, MAN " + i, x.order(1, 0, i), 5 + i);
            DUE.due("35 the least row of losers, MAN " + i, x.bold(1, 0, i), 5 + i);
        }
        DUE.due("34 MAN 5", x.order(0, 1, 5), -1);
        DUE.due("34 MAN -1", x.order(0, 1, -1), -1);
        DUE.due("35 MAN 5", x.bold(0, 1, 5), -1);
        DUE.due("35 -2", x.bold(0, 1, -2), -1);
        DUE.due("the order told stays", x.team(0, 0) * 10 + x.team(0, 4), 23);
        LongBoats one = teams(3, STRONG + WEAK, "team 0 0;team 1 1;");
        DUE.due("33 the one order", one.wins(0, 1), 1);
        DUE.due("35 against the one order", one.bold(0, 1, -1), 1);
        DUE.due("36 sure of one", one.sure(0, 1), 1);
        DUE.due("34 the one MAN", one.order(0, 1, 0), 0);
        DUE.due("34 no second MAN", one.order(0, 1, 1), -1);
        DUE.due("36 a drawn one is not won", teams(3, EVEN + EVEN, "team 0 0;team 1 1;").sure(0, 1), 0);
    }

    /** Promise 34: it wins with most MEN left; else neither wins; else the second one has fewest left. */
    private static void orderRanks() {
        // Tiring first: he has the even one out, and then the weak one: two left. Weak first: both are followed.
        LongBoats x = teams(1, WEAK + TIRING + EVEN + WEAK, "team 0 0 1;team 1 2 3;");
        DUE.due("34 wins with most left, first", x.order(0, 1, 0), 1);
        DUE.due("34 wins with most left, second", x.order(0, 1, 1), 0);
        DUE.due("33 by both orders", x.wins(0, 1), 2);
        // Against two who are even: tiring first has one out, then nobody; the weak one is left, and wins.
        LongBoats y = teams(1, WEAK + TIRING + EVEN + EVEN, "team 0 0 1;team 1 2 3;");
        DUE.due("33 by one order", y.wins(0, 1), 1);
        DUE.due("34 wins rather", y.order(0, 1, 0) * 10 + y.order(0, 1, 1), 10);
        // Against three of these: tiring first, and the last has the weak one out; weak first, and nobody with the
        // second: one is left either way, so that it is the least row.
        LongBoats z = teams(1, WEAK + TIRING + EVEN.repeat(3), "team 0 1 0;team 1 2 3 4;");
        DUE.due("33 by none", z.wins(0, 1), 0);
        DUE.due("34 one left of the second", z.order(0, 1, 0) * 10 + z.order(0, 1, 1), 1);
        // Neither wins rather than the second one: two of each, even and weak: even first meets even, and weak
        // both out with weak: neither; weak first: even has him out, and then nobody: the second one's weak is left.
        LongBoats n = teams(1, WEAK + EVEN + EVEN + WEAK, "team 0 0 1;team 1 2 3;");
        DUE.due("30 as told the second one wins", n.match(0, 1, 0), 1);
        DUE.due("34 neither rather", n.order(0, 1, 0) * 10 + n.order(0, 1, 1), 10);
        DUE.due("33 won by none", n.wins(0, 1), 0);
        // Fewest left: tiring first has the weak one out, then nobody; two are left. Weak first has the weak one out
        // and is himself, tiring has the first even one out, nobody with the second: one is left.
        LongBoats f = teams(1, TIRING + WEAK + WEAK + EVEN + EVEN + STRONG, "team 0 0 1;team 1 2 3 4 5;");
        DUE.due("30 as told two are left", f.match(0, 1, 0) * 10 + f.match(0, 1, 1), 12);
        DUE.due("34 fewest left", f.order(0, 1, 0) * 10 + f.order(0, 1, 1), 10);
        DUE.due("33 won by none, two or one left", f.wins(0, 1), 0);
    }

    /** Promise 34: the first of several (the least row of MEN), whatever order is told. */
    private static void orderOfTies() {
        String[] told = {"0 1 2", "0 2 1", "1 0 2", "1 2 0", "2 0 1", "2 1 0"};
        for (String order : told) {
            LongBoats x = teams(1, WEAK.repeat(4), "team 0 " + order + ";team 1 3;");
            for (int i = 0; i < 3; i++) {
                DUE.due("34 the least row, told " + order, x.order(0, 1, i), i);
                DUE.due("35 the least row, told " + order, x.bold(0, 1, i), i);
            }
            DUE.due("33 all six", x.wins(0, 1), 6);
        }
        // MEN 9, 8 and 0: their numbers count, not their places.
        LongBoats x = teams(1, WEAK.repeat(10), "team 0 9 0 8;team 1 3;");
        DUE.due("34 by numbers", x.order(0, 1, 0) * 100 + x.order(0, 1, 1) * 10 + x.order(0, 1, 2), 89);
    }

    /** Promise 35, 36: tiring meets the even one first and wins, or the weak one first and does not. */
    private static void boldOfSome() {
        LongBoats x = teams(1, TIRING + EVEN + WEAK, "team 0 0;team 1 1 2;");
        DUE.due("30 as told", x.match(0, 1, 0), 0);
        DUE.due("33 the second one's order being told", x.wins(0, 1), 1);
        DUE.due("35 one of two orders", x.bold(0, 1, -1), 1);
        DUE.due("36 not against all", x.sure(0, 1), 0);
        x.swap(1, 0, 1);
        DUE.due("30 swapped", x.match(0, 1, 0), 2);
        DUE.due("33 swapped", x.wins(0, 1), 0);
        DUE.due("35 whatever is told", x.bold(0, 1, -1), 1);
        DUE.due("36 whatever is told", x.sure(0, 1), 0);
        x.train(1, 0, 40);
        DUE.due("35 two weak ones", x.bold(0, 1, -1), 2);
        DUE.due("36 two weak ones", x.sure(0, 1), 1);
        DUE.due("36 from the other side", x.sure(1, 0), 0);
        // Of five he has two out at most.
        LongBoats y = teams(1, TIRING + EVEN + WEAK.repeat(4), "team 0 0;team 1 5 4 3 2 1;");
        DUE.due("35 against no order", y.bold(0, 1, -1), 0);
        LongBoats z = teams(1, Harbours.man(100, 10, 12, 3, 2, "middle") + EVEN + WEAK.repeat(4),
                "team 0 0;team 1 5 4 3 2 1;");
        // FORCE 18, 15, 12, 9, 6: the even one (10) must be among the first three, all others STAND 4.
        DUE.due("35 among the first three", z.bold(0, 1, -1), 72);
        DUE.due("36 not among all five", z.sure(0, 1), 0);
    }

    /** Promise 35: the first of several. */
    private static void boldOfTies() {
        LongBoats x = teams(1, WEAK + STRONG + WEAK + WEAK, "team 0 1 0;team 1 2 3;");
        DUE.due("35 both orders win against both", x.bold(0, 1, -1), 2);
        DUE.due("35 the first of several, first", x.bold(0, 1, 0), 0);
        DUE.due("35 the first of several, second", x.bold(0, 1, 1), 1);
        DUE.due("34 the best is another", x.order(0, 1, 0), 1);
        LongBoats none = teams(1, WEAK.repeat(4) + STRONG, "team 0 3 1 0;team 1 4;");
        DUE.due("35 none wins", none.bold(0, 1, -1), 0);
        DUE.due("35 the first of all, first", none.bold(0, 1, 0), 0);
        DUE.due("35 the first of all, second", none.bold(0, 1, 1), 1);
        DUE.due("35 the first of all, third", none.bold(0, 1, 2), 3);
    }

    /** Promise 35: who follows another one is fresh, who stays is not. */
    private static void boldOfTired() {
        String first = Harbours.man(100, 10, 15, 9, 2, "middle");
        LongBoats x = teams(1, first + TIRING.repeat(9), "team 0 4 2 0 3 1;team 1 5 6 7 8 9;");
        DUE.due("33 nine BOUTS or fewer, all orders", x.wins(0, 1), 120);
        DUE.due("35 nine BOUTS", x.bold(0, 1, -1), 120);
        DUE.due("36 nine BOUTS", x.sure(0, 1), 1);
        DUE.due("35 never the other way", x.bold(1, 0, -1), 0);
        for (int i = 0; i < 5; i++) {
            DUE.due("34 the least row", x.order(0, 1, i), i);
            DUE.due("35 the least row", x.bold(0, 1, i), i);
        }
        // Strong ahead of tiring: two strong ones are followed, and tiring, fresh, has the even one out. Tiring ahead
        // is out, and the even one is left.
        LongBoats y = teams(1, TIRING + STRONG + STRONG + EVEN, "team 0 0 1;team 1 2 3;");
        DUE.due("35 against both orders", y.bold(0, 1, -1), 2);
        DUE.due("35 not the least row", y.bold(0, 1, 0) * 10 + y.bold(0, 1, 1), 10);
        DUE.due("36 sure", y.sure(0, 1), 1);
        // The other one has FORCE 6 and STANDS 10, one pass later 0 and 6: FORCE 8 has him out then, and only then.
        LongBoats z = teams(1, Harbours.man(40, 0, 2, 0, 2, "middle") + WEAK
                + Harbours.man(100, 0, 0, 9, 2, "middle"), "team 0 0 1;team 1 2;");
        DUE.due("33 the weak one ahead", z.wins(0, 1), 1);
        DUE.due("35 the weak one ahead", z.bold(0, 1, -1), 1);
        DUE.due("35 not the least row, either", z.bold(0, 1, 0) * 10 + z.bold(0, 1, 1), 10);
        DUE.due("36 sure, either", z.sure(0, 1), 1);
    }

    /** Promise 34: the second one has all five left, whatever the order: the least row. */
    private static void allAreLost() {
        LongBoats x = teams(1, STRONG.repeat(5) + WEAK.repeat(5), "team 0 9 7 8;team 1 0 1 2 3 4;team 0 6;");
        DUE.due("30 five left", x.match(0, 1, 0) * 10 + x.match(0, 1, 1), 15);
        DUE.due("34 the least row", x.order(0, 1, 0) * 100 + x.order(0, 1, 1) * 10 + x.order(0, 1, 2), 789);
        DUE.due("34 of one", x.order(2, 1, 0), 6);
        DUE.due("35 the least row", x.bold(0, 1, 0) * 100 + x.bold(0, 1, 1) * 10 + x.bold(0, 1, 2), 789);
        DUE.due("37 the first as told", x.pillar(0, 1), 9);
        DUE.due("37 four left without each, the first as told", x.pillar(1, 0), 0);
        x.swap(1, 0, 4);
        DUE.due("37 four left, swapped", x.pillar(1, 0), 4);
        DUE.due("34 five left, the least row", x.order(1, 0, 0) * 10 + x.order(1, 0, 4), 4);
    }

    /** Promise 37: NONE: it has but one. */
    private static void pillars() {
        LongBoats x = teams(1, STRONG + WEAK.repeat(4), "team 0 0;team 1 1 2;team 0 3 0;");
        DUE.due("37 but one", x.pillar(0, 1), -1);
        DUE.due("37 of two weak ones, the first", x.pillar(1, 0), 1);
        DUE.due("37 the second of two", x.pillar(2, 1), 0);
        DUE.due("37 one MAN in both", x.pillar(2, 0), -2);
        DUE.due("37 TEAM 3", x.pillar(3, 1), -2);
        DUE.due("37 one, and one MAN in both", x.pillar(0, 2), -2);
        LongBoats five = teams(3, WEAK.repeat(4) + STRONG + WEAK.repeat(5), "team 0 2 4 1 0 3;team 1 5 6 7 8 9;");
        DUE.due("37 of five", five.pillar(0, 1), 4);
    }

    /** Promise 37: the first of several, as told. */
    private static void pillarOfTies() {
        LongBoats x = teams(1, WEAK.repeat(10), "team 0 3 1 0 4 2;team 1 5 6 7 8 9;");
        DUE.due("37 all alike, as told", x.pillar(0, 1), 3);
        x.swap(0, 0, 4);
        DUE.due("37 all alike, swapped", x.pillar(0, 1), 2);
        // The worst: losing with most left to the other. Without the strong one all are out against one.
        LongBoats y = teams(1, WEAK + STRONG + WEAK + EVEN.repeat(2), "team 0 0 1 2;team 1 3 4;");
        DUE.due("37 without whom it loses", y.pillar(0, 1), 1);
        // Nobody else comes in his place, least of all MAN 0, who is strong.
        LongBoats w = teams(1, STRONG + WEAK + EVEN.repeat(3), "team 0 1 2;team 1 3 4;");
        DUE.due("37 nobody comes in his place", w.pillar(0, 1), 2);
        // Without the even one nobody is left of either, without the weak one it wins.
        LongBoats z = teams(1, WEAK + EVEN + WEAK, "team 0 0 1;team 1 2;");
        DUE.due("37 without whom neither wins", z.pillar(0, 1), 1);
    }

    /** Promise 30: -2: there are none such, one TEAM twice, one MAN in both: be he the last of both. */
    private static void whoCanMeet() {
        LongBoats x = teams(1, WEAK.repeat(10), "team 0 0 1 2 3 4;team 1 5 6 7 8 4;team 1 5 6 7 8 9;team 0 9;");
        int[][] pairs = {{0, 1}, {1, 2}, {2, 3}, {0, 0}, {3, 3}, {0, 4}, {4, 0}, {-1, 0}, {0, -1}};
        for (int[] p : pairs) {
            for (int turn = 0; turn <= 1; turn++) {
                int team = p[turn];
                int other = p[1 - turn];
                String of = " of " + team + " and " + other;
                DUE.due("30" + of, x.match(team, other, 0), -2);
                DUE.due("31" + of, x.passed(team, other, 0), -2);
                DUE.due("32" + of, x.led(team, other, 0, 0), -2);
                DUE.due("33" + of, x.wins(team, other), -2);
                DUE.due("34" + of, x.order(team, other, 0), -2);
                DUE.due("35" + of, x.bold(team, other, -1), -2);
                DUE.due("36" + of, x.sure(team, other), -2);
                DUE.due("37" + of, x.pillar(team, other), -2);
                DUE.due("58" + of, x.day(0, team, other, 0), -2);
            }
        }
        DUE.due("30 0 and 2 can", x.match(0, 2, 0), 2);
        DUE.due("30 0 and 3 can", x.match(0, 3, 1), 4);
        DUE.due("30 1 and 3 can", x.match(3, 1, 1), 4);
    }

    /** IV, II: SPEED is that of the TEAMS' BOATS, of one BOAT twice too. */
    private static void boatsOfTeams() {
        // FORCE 6 and SPEED against 20 less half the SPEED: with SPEED 9 (15 against 16) nobody is out, with 10 both.
        LongBoats x = Due.told(Harbours.head(0, 3, 1) + Harbours.boat(4, 4) + Harbours.boat(5, 4)
                + Harbours.man(200, 0, 0, 0, 2, "middle").repeat(3) + "team 0 0;team 1 1;team 1 2;");
        DUE.due("32 SPEED 9", x.led(0, 1, 0, 2), 0);
        DUE.due("32 SPEED 10, one BOAT twice", x.led(1, 2, 0, 2), 3);
        x.mend(0, 0, 5);
        DUE.due("32 SPEED 10", x.led(0, 1, 0, 2), 3);
    }
}
