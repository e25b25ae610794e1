/** Promises 15 to 21, 23 to 29, 55: chances by slips, what is best, games. */
public final class SlipsTest {
    private static final Due DUE = new Due("SlipsTest");

    public static void main(String[] args) {
        LongBoats x = Due.told(Harbours.THREE);
        chances(x);
        steering(x);
        boutChances(x);
        bestOnes(x);
        games(x);
        wrong(x);
        games2();
        DUE.close();
    }

    private static void fraction(String what, long above, long below, long wantAbove, long wantBelow) {
        DUE.due(what + " above", above, wantAbove);
        DUE.due(what + " below", below, wantBelow);
    }

    /** Slips of 1 and 1: of nine pairs 1, 2, 3, 2, 1 make a gap 2 less .. 2 more. */
    private static void chances(LongBoats x) {
        long[][] at3 = {{1, 9}, {7, 9}, {1, 9}};
        long[][] at2 = {{1, 3}, {2, 3}, {0, 1}};
        long[][] at0 = {{8, 9}, {1, 9}, {0, 1}};
        long[][] at12 = {{0, 1}, {0, 1}, {1, 1}};
        for (int kind = 0; kind < 3; kind++) {
            fraction("comes 3 " + kind, x.comes(0, 1, 3, kind, 0), x.comes(0, 1, 3, kind, 1), at3[kind][0], at3[kind][1]);
            fraction("comes 2 " + kind, x.comes(0, 1, 2, kind, 0), x.comes(0, 1, 2, kind, 1), at2[kind][0], at2[kind][1]);
            fraction("comes 0 " + kind, x.comes(0, 1, 0, kind, 0), x.comes(0, 1, 0, kind, 1), at0[kind][0], at0[kind][1]);
            fraction("comes 12 " + kind, x.comes(0, 1, 12, kind, 0), x.comes(0, 1, 12, kind, 1), at12[kind][0], at12[kind][1]);
        }
        x.mend(1, 1, 0);
        fraction("comes 2, one slips", x.comes(0, 1, 2, 0, 0), x.comes(1, 0, 2, 0, 1), 1, 3);
        x.mend(1, 1, 1);
        fraction("odds 3", x.odds(0, 1, 0, 1, 3, 0), x.odds(0, 1, 0, 1, 3, 1), 7, 9);
        fraction("odds 2", x.odds(0, 1, 0, 1, 2, 0), x.odds(0, 1, 0, 1, 2, 1), 1, 9);
        fraction("odds 1", x.odds(0, 1, 0, 1, 1, 0), x.odds(0, 1, 0, 1, 1, 1), 0, 1);
        fraction("odds 0", x.odds(0, 1, 0, 1, 0, 0), x.odds(0, 1, 0, 1, 0, 1), 1, 9);
    }

    private static void steering(LongBoats x) {
        DUE.due("steer 1/9", x.steer(0, 1, 1, 9), 3);
        DUE.due("steer 1/10", x.steer(0, 1, 1, 10), 4);
        DUE.due("steer 0/1", x.steer(0, 1, 0, 1), 4);
        DUE.due("steer 1/1", x.steer(0, 1, 1, 1), 3);
        DUE.due("steer 100/1", x.steer(0, 1, 100, 1), 3);
        x.mend(0, 1, 0);
        x.mend(1, 1, 0);
        DUE.due("steer without slips: the least", x.steer(0, 1, 0, 1), 2);
        x.mend(0, 1, 4);
        x.mend(1, 1, 4);
        Due.tell(x, Harbours.THREE + "reach 12 to 12;boat oars 2 slip 4;");
        DUE.due("steer by none", x.steer(2, 2, 0, 1), -1);
        DUE.due("steer by 12", x.steer(2, 2, 1, 2), 12);
        Due.tell(x, Harbours.THREE);
        DUE.due("steer above 101", x.steer(0, 1, 101, 1), -2);
        DUE.due("steer above -1", x.steer(0, 1, -1, 1), -2);
        DUE.due("steer below 0", x.steer(0, 1, 1, 0), -2);
        DUE.due("steer below 101", x.steer(0, 1, 1, 101), -2);
        DUE.due("steer boat 2", x.steer(0, 2, 1, 1), -2);
    }

    /** Every pass has RESULT 0 in 1 of 9, 2 in 1, 3 in 7. */
    private static void boutChances(LongBoats x) {
        fraction("ends 0", x.ends(0, 1, 0, 1, 0, 0), x.ends(0, 1, 0, 1, 0, 1), 1, 729);
        fraction("ends 1", x.ends(0, 1, 0, 1, 1, 0), x.ends(0, 1, 0, 1, 1, 1), 0, 1);
        fraction("ends 2", x.ends(0, 1, 0, 1, 2, 0), x.ends(0, 1, 0, 1, 2, 1), 91, 729);
        fraction("ends 3", x.ends(0, 1, 0, 1, 3, 0), x.ends(0, 1, 0, 1, 3, 1), 637, 729);
        fraction("lasts", x.lasts(0, 1, 0, 1, 0), x.lasts(0, 1, 0, 1, 1), 91, 81);
        x.rule(2, 1);
        fraction("lasts one", x.lasts(0, 1, 0, 1, 0), x.lasts(0, 1, 0, 1, 1), 1, 1);
        x.rule(2, 7);
        x.mend(0, 1, 4);
        x.mend(1, 1, 4);
        // At gap 12 one pair of 81 makes a TOUCH (12 - 4 - 4 is 4), where MAN 2 has a foul.
        x.rule(0, 12);
        long all = 81L * 81 * 81 * 81 * 81 * 81 * 81;
        fraction("ends of seven", x.ends(2, 0, 0, 1, 1, 0), x.ends(2, 0, 0, 1, 1, 1),
                (all - 80L * 80 * 80 * 80 * 80 * 80 * 80), all);
        fraction("ends 0 of seven", x.ends(2, 0, 0, 1, 0, 0), x.ends(2, 0, 0, 1, 0, 1),
                80L * 80 * 80 * 80 * 80 * 80 * 80, all);
        Due.tell(x, Harbours.THREE);
    }

    private static void bestOnes(LongBoats x) {
        // Both are out at a TOUCH whatever 0 chooses; WIDE 1 falls alone, but for 0 leaning 4.
        DUE.due("best 0 1", x.best(0, 1, 0, 1), 0);
        // Against the edge nobody thrusts: MAN 0 gains 7 and 0 whatever he does, the first is best.
        DUE.due("best 0 2", x.best(0, 2, 0, 1), 0);
        // MAN 1 is out at a TOUCH like 0 is, and WIDE alone if he leans 4.
        DUE.due("best 1 0", x.best(1, 0, 0, 1), 0);
        // He STANDS 8 + w/10 - 8 against 20: GAIN is 7 - 1 at 200, else, both being out, it is 0 - 1.
        DUE.due("even 1 0", x.even(1, 0, 0, 1, 0), 0);
        DUE.due("even 1 0, least", x.even(1, 0, 0, 1, 1), -1);
        x.train(1, 4, 3);
        // Leaning 3 he never falls by himself; he STANDS 4 + w/10 - 2 against 20, FORCE is 22 against 11.
        x.train(1, 1, 10);
        DUE.due("even, out both below 160", x.even(1, 0, 0, 1, 0), 120);
        DUE.due("even, least", x.even(1, 0, 0, 1, 1), 40);
        Due.tell(x, Harbours.THREE);
        x.train(0, 5, 2);
        DUE.due("even by none", x.even(0, 1, 0, 1, 1), -1);
        DUE.due("even by none, 0", x.even(0, 1, 0, 1, 0), 0);
        Due.tell(x, Harbours.THREE);
        DUE.due("part 0 1", x.part(0, 1, 0, 1), 1);
        DUE.due("part 1 0", x.part(1, 0, 0, 1), -1);
        DUE.due("part 0 2", x.part(0, 2, 0, 1), 7 - 9);
        DUE.due("part 2 0", x.part(2, 0, 0, 1), 9 - 7);
        x.rule(0, 1);
        DUE.due("part of crashes", x.part(0, 2, 0, 1), 3);
        x.rule(0, 3);
    }

    private static void games(LongBoats x) {
        DUE.due("game 4 4", x.game(0, 1, 0, 1, 4, 4), 0);
        DUE.due("game 8 4", x.game(0, 1, 0, 1, 8, 4), -1);
        DUE.due("game 4 8", x.game(0, 1, 0, 1, 4, 8), 1);
        DUE.due("game 9 9", x.game(0, 1, 0, 1, 9, 9), 0);
        DUE.due("reply 4", x.reply(0, 1, 0, 1, 4), 0);
        DUE.due("safe 0", x.safe(0, 1, 0, 1, 0), 0);
        DUE.due("safe 1", x.safe(0, 1, 0, 1, 1), 0);
        DUE.due("safe 2", x.safe(0, 1, 0, 1, 2), 0);
        DUE.due("safe 3", x.safe(0, 1, 0, 1, 3), 0);
        DUE.due("rests", x.rests(0, 1, 0, 1), 64);
        DUE.due("rest 0", x.rest(0, 1, 0, 1, 0), 0);
        DUE.due("rest 1", x.rest(0, 1, 0, 1, 1), 0);
        DUE.due("vain", x.vain(0, 1, 0, 1), 768);
    }

    /**
     * SPEED 0, no slips. MAN 0 has FORCE 10, and a lean and 4 or 2 more, STANDS 14 less twice his lean
     * off 2; MAN 1 likewise 10 and 15.
     */
    private static void games2() {
        LongBoats x = Due.told("harbour stream 4 gap 3 passes 1;boat oars 2 slip 0;boat oars 2 slip 0;"
                + "man weight 100 skill 4 quick 10 tires 0 leans 2 aims middle;"
                + "man weight 100 skill 5 quick 10 tires 0 leans 2 aims middle;");
        // FORCE 16 against 15, MAN 1's 16 against 14: both are out.
        DUE.due("game 4 4", x.game(0, 1, 0, 1, 4, 4), 0);
        DUE.due("game 0 4", x.game(0, 1, 0, 1, 0, 4), -1);
        DUE.due("game 4 0", x.game(0, 1, 0, 1, 4, 0), 1);
        // FORCE 14 by the corner against 15 - 4 - 3, MAN 1's, leaning 0, 14 against 14.
        DUE.due("game 5 0", x.game(0, 1, 0, 1, 5, 0), 1);
        // He is out by 16 whatever he does; 13 by the corner, leaning 1, is the first above 15 - 3.
        DUE.due("best 0", x.best(0, 1, 0, 1), 3);
        DUE.due("oars: all alike, the least", x.oars(0, 1, 0, 1), 2);
        // MAN 0 has FORCE 6 + SPEED against 20 - SPEED / 2, and STANDS 40 - SPEED / 2 against 6 + SPEED:
        // from SPEED 10 on (16 > 15) the other one is out alone.
        x.train(0, 2, 0);
        x.train(0, 1, 30);
        x.train(1, 2, 0);
        x.train(1, 1, 10);
        DUE.due("oars", x.oars(0, 1, 0, 1), 12);
        DUE.due("oars of one BOAT twice", x.oars(0, 1, 0, 0), 7);
        DUE.due("oars stay", x.boat(0, 0), 2);
        x.mend(1, 0, 4);
        DUE.due("oars with 4", x.oars(0, 1, 0, 1), 10);
        x.train(0, 2, 10);
        x.train(0, 1, 4);
        x.train(1, 2, 10);
        x.train(1, 1, 5);
        x.mend(1, 0, 2);
        int[][] g = new int[10][10];
        for (int i = 0; i < 10; i++) {
            for (int j = 0; j < 10; j++) {
                int fi = 10 + i / 2 + (i % 2 == 0 ? 4 : 2);
                int fj = 10 + j / 2 + (j % 2 == 0 ? 4 : 2);
                int si = 14 - 2 * Math.abs(i / 2 - 2) - (j % 2 == 1 ? 3 : 0);
                int sj = 15 - 2 * Math.abs(j / 2 - 2) - (i % 2 == 1 ? 3 : 0);
                g[i][j] = (fi > sj && fj <= si ? 1 : 0) - (fj > si && fi <= sj ? 1 : 0);
                DUE.due("game " + i + " " + j, x.game(0, 1, 0, 1, i, j), g[i][j]);
            }
        }
    }

    private static void wrong(LongBoats x) {
        DUE.due("comes gap 13", x.comes(0, 1, 13, 0, 0), -2);
        DUE.due("comes gap -1", x.comes(0, 1, -1, 0, 0), -2);
        DUE.due("comes kind 3", x.comes(0, 1, 3, 3, 0), -2);
        DUE.due("comes kind -1", x.comes(0, 1, 3, -1, 0), -2);
        DUE.due("comes what 2", x.comes(0, 1, 3, 0, 2), -2);
        DUE.due("comes boat 2", x.comes(2, 1, 3, 0, 0), -2);
        DUE.due("odds result 4", x.odds(0, 1, 0, 1, 4, 0), -2);
        DUE.due("odds result -1", x.odds(0, 1, 0, 1, -1, 0), -2);
        DUE.due("odds what 2", x.odds(0, 1, 0, 1, 0, 2), -2);
        DUE.due("odds one twice", x.odds(0, 0, 0, 1, 0, 0), -2);
        DUE.due("ends result 4", x.ends(0, 1, 0, 1, 4, 0), -2);
        DUE.due("ends what -1", x.ends(0, 1, 0, 1, 0, -1), -2);
        DUE.due("ends boat 2", x.ends(0, 1, 0, 2, 0, 0), -2);
        DUE.due("lasts what 2", x.lasts(0, 1, 0, 1, 2), -2);
        DUE.due("lasts man 3", x.lasts(3, 1, 0, 1, 0), -2);
        DUE.due("best one twice", x.best(1, 1, 0, 1), -2);
        DUE.due("oars man 3", x.oars(1, 3, 0, 1), -2);
        DUE.due("even what 2", x.even(0, 1, 0, 1, 2), -2);
        DUE.due("even one twice", x.even(0, 0, 0, 1, 0), -2);
        DUE.due("game choice 10", x.game(0, 1, 0, 1, 10, 0), -1000);
        DUE.due("game reply -1", x.game(0, 1, 0, 1, 0, -1), -1000);
        DUE.due("game one twice", x.game(0, 0, 0, 1, 0, 0), -1000);
        DUE.due("reply choice 10", x.reply(0, 1, 0, 1, 10), -2);
        DUE.due("reply boat 2", x.reply(0, 1, 2, 1, 0), -2);
        DUE.due("safe what 4", x.safe(0, 1, 0, 1, 4), -1000);
        DUE.due("safe what -1", x.safe(0, 1, 0, 1, -1), -1000);
        DUE.due("safe one twice", x.safe(1, 1, 0, 1, 0), -1000);
        DUE.due("rests one twice", x.rests(1, 1, 0, 1), -2);
        DUE.due("rest what 2", x.rest(0, 1, 0, 1, 2), -2);
        DUE.due("rest boat -1", x.rest(0, 1, -1, 1, 0), -2);
        DUE.due("vain one twice", x.vain(1, 1, 0, 1), -2);
        DUE.due("part one twice", x.part(1, 1, 0, 1), -1000);
        DUE.due("part boat 2", x.part(1, 0, 0, 2), -1000);
    }
}
