/** Promises 6 to 8, 38 to 41, 59 to 61: changes at their bounds, refused ones that change nothing, IMAGES. */
public final class ChangeBoundsTest {
    private static final Due DUE = new Due("ChangeBoundsTest");

    public static void main(String[] args) {
        toldAsked();
        teamsAsked();
        swaps();
        trains();
        mends();
        rules();
        ruleAgainstReach();
        counts();
        countsWithout();
        imagesEmpty();
        imagesApart();
        imagesKeepAll();
        imageOfNone();
        DUE.close();
    }

    /** Promises 6, 7: the last MAN and BOAT that are told, and one more. */
    private static void toldAsked() {
        LongBoats x = Due.told(Harbours.FULL);
        int[] last = {101, 16, 11, 5, 1, 1};
        for (int what = 0; what <= 5; what++) {
            DUE.due("6 MAN 9, what " + what, x.man(9, what), last[what]);
            DUE.due("6 MAN 10, what " + what, x.man(10, what), -2);
            DUE.due("6 MAN -1, what " + what, x.man(-1, what), -2);
        }
        DUE.due("6 what 6", x.man(9, 6), -2);
        DUE.due("6 what -1", x.man(0, -1), -2);
        // A what beyond its bounds is not the next MAN's.
        DUE.due("6 what 6 of MAN 0", x.man(0, 6), -2);
        DUE.due("6 what -1 of MAN 1", x.man(1, -1), -2);
        DUE.due("7 BOAT 3, oars", x.boat(3, 0), 7);
        DUE.due("7 BOAT 3, slip", x.boat(3, 1), 4);
        DUE.due("7 BOAT 4", x.boat(4, 0), -2);
        DUE.due("7 BOAT -1", x.boat(-1, 1), -2);
        DUE.due("7 what 2", x.boat(0, 2), -2);
        DUE.due("7 what -1", x.boat(1, -1), -2);
    }

    /** Promise 8: NONE: there are not so many; i -1: its BOAT, -2: how many; -2: there is no such TEAM. */
    private static void teamsAsked() {
        LongBoats x = Due.told(Harbours.FULL);
        int[][] teams = {{0, 1}, {2, 3, 4, 5, 6}, {7, 8}, {9}};
        for (int team = 0; team <= 3; team++) {
            DUE.due("8 the BOAT of " + team, x.team(team, -1), team);
            DUE.due("8 how many of " + team, x.team(team, -2), teams[team].length);
            for (int i = 0; i < teams[team].length; i++) {
                DUE.due("8 MAN " + i + " of " + team, x.team(team, i), teams[team][i]);
            }
            DUE.due("8 one more of " + team, x.team(team, teams[team].length), -1);
            DUE.due("8 two more of " + team, x.team(team, teams[team].length + 1), -1);
            DUE.due("8 -3 of " + team, x.team(team, -3), -1);
            DUE.due("8 MIN of " + team, x.team(team, Integer.MIN_VALUE), -1);
            DUE.due("8 MAX of " + team, x.team(team, Integer.MAX_VALUE), -1);
        }
        for (int i = -3; i <= 5; i++) {
            DUE.due("8 TEAM 4, " + i, x.team(4, i), -2);
            DUE.due("8 TEAM -1, " + i, x.team(-1, i), -2);
        }
    }

    /** Promise 38: MEN i and k change places, the first and the last, one with himself; -2, and nothing happens. */
    private static void swaps() {
        LongBoats x = Due.told(Harbours.FULL);
        DUE.due("38 the first and the last", x.swap(1, 0, 4), 0);
        DUE.due("38 the first", x.team(1, 0), 6);
        DUE.due("38 the last", x.team(1, 4), 2);
        DUE.due("38 the other way", x.swap(1, 4, 0), 0);
        DUE.due("38 the first again", x.team(1, 0) * 10 + x.team(1, 4), 26);
        DUE.due("38 with himself", x.swap(1, 4, 4), 0);
        DUE.due("38 of one", x.swap(3, 0, 0), 0);
        String before = State.of(x);
        int[][] wrong = {{1, 0, 5}, {1, 5, 0}, {1, -1, 0}, {1, 0, -1}, {1, 5, 5}, {1, -1, -1}, {3, 0, 1}, {0, 2, 0},
            {4, 0, 0}, {-1, 0, 0}, {0, -2, 0}};
        for (int[] w : wrong) {
            DUE.due("38 swap " + w[0] + " " + w[1] + " " + w[2], x.swap(w[0], w[1], w[2]), -2);
        }
        DUE.dueText("38 nothing happens", State.of(x), before);
    }

    /** Promise 39: n as told; what it was. */
    private static void trains() {
        int[] least = {40, 0, 0, 0, 0, 0};
        int[] most = {200, 30, 30, 9, 4, 2};
        for (int man = 0; man <= 9; man += 9) {
            LongBoats x = Due.told(Harbours.FULL);
            for (int what = 0; what <= 5; what++) {
                int was = x.man(man, what);
                DUE.due("39 below " + what, x.train(man, what, least[what] - 1), -2);
                DUE.due("39 above " + what, x.train(man, what, most[what] + 1), -2);
                DUE.due("39 stays " + what, x.man(man, what), was);
                DUE.due("39 least " + what, x.train(man, what, least[what]), was);
                DUE.due("39 is least " + what, x.man(man, what), least[what]);
                DUE.due("39 most " + what, x.train(man, what, most[what]), least[what]);
                DUE.due("39 is most " + what, x.man(man, what), most[what]);
                DUE.due("39 as it was " + what, x.train(man, what, most[what]), most[what]);
            }
            DUE.due("39 the neighbours", x.man(man == 0 ? 1 : 8, 0), man == 0 ? 95 : 99);
        }
        LongBoats x = Due.told(Harbours.FULL);
        DUE.due("39 MAN 10", x.train(10, 0, 50), -2);
        DUE.due("39 MAN -1", x.train(-1, 0, 50), -2);
    }

    /** Promise 40: oars 2 .. 12, slip 0 .. 4; what it was. */
    private static void mends() {
        int[] least = {2, 0};
        int[] most = {12, 4};
        for (int boat = 0; boat <= 3; boat++) {
            LongBoats x = Due.told(Harbours.FULL);
            for (int what = 0; what <= 1; what++) {
                int was = x.boat(boat, what);
                DUE.due("40 below " + what, x.mend(boat, what, least[what] - 1), -2);
                DUE.due("40 above " + what, x.mend(boat, what, most[what] + 1), -2);
                DUE.due("40 stays " + what, x.boat(boat, what), was);
                DUE.due("40 least " + what, x.mend(boat, what, least[what]), was);
                DUE.due("40 is least " + what, x.boat(boat, what), least[what]);
                DUE.due("40 most " + what, x.mend(boat, what, most[what]), least[what]);
                DUE.due("40 is most " + what, x.boat(boat, what), most[what]);
            }
        }
        LongBoats x = Due.told(Harbours.FULL);
        DUE.due("40 BOAT 4", x.mend(4, 0, 5), -2);
        DUE.due("40 BOAT -1", x.mend(-1, 0, 5), -2);
    }

    /** Promise 41: what it was; -2: there are none such, no HARBOUR. */
    private static void rules() {
        int[] least = {0, 0, 1, 0};
        int[] most = {12, 9, 7, 50};
        int[] counted = {4, 3, 5, 8};
        int[] was = {3, 3, 3, 10};
        LongBoats x = Due.told(Harbours.FULL);
        for (int what = 0; what <= 3; what++) {
            DUE.due("41 below " + what, x.rule(what, least[what] - 1), -2);
            DUE.due("41 above " + what, x.rule(what, most[what] + 1), -2);
            DUE.due("41 stays " + what, x.count(counted[what]), was[what]);
            DUE.due("41 least " + what, x.rule(what, least[what]), was[what]);
            DUE.due("41 is least " + what, x.count(counted[what]), least[what]);
            DUE.due("41 most " + what, x.rule(what, most[what]), least[what]);
            DUE.due("41 is most " + what, x.count(counted[what]), most[what]);
        }
        DUE.due("41 no more LINES", x.count(9), 20);
        LongBoats none = new LongBoats();
        for (int what = 0; what <= 3; what++) {
            DUE.due("41 no HARBOUR " + what, none.rule(what, 1), -2);
            DUE.due("41 and none then " + what, none.count(counted[what]), 0);
        }
        Due.tell(x, "");
        DUE.due("41 no HARBOUR any more", x.rule(0, 1), -2);
        Due.tell(x, Harbours.head(0, 0, 1));
        DUE.due("41 a HARBOUR of one LINE", x.rule(0, 12), 0);
    }

    /** The gap steered for may be beyond reach. */
    private static void ruleAgainstReach() {
        LongBoats x = Due.told(Harbours.still(3, 1, Harbours.man(40, 0, 0, 0, 4, "edge"),
                Harbours.man(40, 0, 0, 0, 2, "middle")) + "reach 5 to 6;");
        int[] why = {0, 0, 0, 0, 0, 2, 2, 1, 1, 1, 1, 1, 1};
        for (int gap = 0; gap <= 12; gap++) {
            x.rule(0, gap);
            DUE.due("41 gap " + gap, x.bout(0, 1, 0, 1, 0), why[gap] == 0 ? 0 : 1);
        }
    }

    /** Promise 59: as many as there are, at most; NONE for others. */
    private static void counts() {
        LongBoats x = Due.told(Harbours.FULL + "reach 0 to 12;");
        int[] want = {4, 10, 4, 3, 3, 3, 0, 12, 10, 21, 0, 0};
        for (int what = 0; what < want.length; what++) {
            DUE.due("59 count(" + what + ")", x.count(what), want[what]);
        }
        DUE.due("59 count(-1)", x.count(-1), -1);
        DUE.due("59 count(12)", x.count(12), -1);
        DUE.due("59 count(MIN)", x.count(Integer.MIN_VALUE), -1);
        DUE.due("59 count(MAX)", x.count(Integer.MAX_VALUE), -1);
        for (int slot = 0; slot <= 3; slot++) {
            x.row(slot, slot, slot == 0 ? 0 : 60);
            DUE.due("59 SLOTS", x.count(11), slot + 1);
            x.row(slot, 3 - slot, 5);
            DUE.due("59 one in place of another", x.count(11), slot + 1);
        }
        x.row(4, 0, 1);
        x.row(0, 0, -1);
        DUE.due("59 no more SLOTS", x.count(11), 4);
        for (int feeds = 1; feeds <= 60; feeds++) {
            x.feed(0, 0, 0, 0, 0);
        }
        x.feed(0, 0, 0, 0, 0);
        DUE.due("59 bytes", x.count(10), 1200);
        x.end(7);
        DUE.due("59 bytes left", x.count(10), 7);
    }

    /** Promise 59: 0 without a HARBOUR; the TAPE and SLOTS are there without one. */
    private static void countsWithout() {
        LongBoats x = new LongBoats();
        x.feed(0, 0, 0, 0, 0);
        x.row(3, 3, 60);
        for (int what = 0; what <= 9; what++) {
            DUE.due("59 without, count(" + what + ")", x.count(what), 0);
        }
        DUE.due("59 without, bytes", x.count(10), 20);
        DUE.due("59 without, SLOTS", x.count(11), 1);
        DUE.due("59 without, count(12)", x.count(12), -1);
        DUE.due("59 without, count(-1)", x.count(-1), -1);
    }

    /** Promises 60, 61: -2: no such k; -6: it has nothing. */
    private static void imagesEmpty() {
        LongBoats x = Due.told(Harbours.THREE);
        for (int k : new int[] {-1, 3, Integer.MIN_VALUE, Integer.MAX_VALUE}) {
            DUE.due("60 image(" + k + ")", x.image(k), -2);
            DUE.due("61 back(" + k + ")", x.back(k), -2);
        }
        for (int k = 0; k <= 2; k++) {
            x.rule(0, 5 + k);
            DUE.due("61 nothing yet " + k, x.back(k), -6);
            DUE.due("61 nothing happens", x.count(4), 5 + k);
            DUE.due("60 image(" + k + ")", x.image(k), 0);
            DUE.due("61 something now " + k, x.back(k), 0);
        }
    }

    /** Each IMAGE by itself; a later one of the same k is in place of it. */
    private static void imagesApart() {
        LongBoats x = Due.told(Harbours.THREE);
        for (int k = 0; k <= 2; k++) {
            x.rule(0, 5 + k);
            x.image(k);
        }
        for (int k = 2; k >= 0; k--) {
            x.rule(0, 12);
            DUE.due("61 back(" + k + ")", x.back(k), 0);
            DUE.due("61 as it has it " + k, x.count(4), 5 + k);
        }
        x.rule(0, 11);
        x.image(1);
        x.back(0);
        DUE.due("60 the others stay", x.count(4), 5);
        x.back(2);
        DUE.due("60 the others stay, too", x.count(4), 7);
        x.back(1);
        DUE.due("60 in place of it", x.count(4), 11);
        x.image(3);
        x.image(-1);
        x.rule(0, 0);
        x.back(1);
        DUE.due("60 refused ones keep nothing", x.count(4), 11);
    }

    /** It keeps all of the HARBOUR, and nothing else. */
    private static void imagesKeepAll() {
        LongBoats x = Due.told(Harbours.FULL + "reach 1 to 7;");
        x.row(0, 0, 3);
        x.write(0, 1, 1);
        String before = State.of(x);
        x.image(2);
        Due.tell(x, Harbours.head(0, 0, 1));
        DUE.due("61 back", x.back(2), 0);
        DUE.dueText("61 all of it", State.of(x), before);
        Due.tell(x, "errs 3;");
        x.feed(0, 0, 0, 0, 0);
        x.row(1, 1, 60);
        DUE.due("61 back once more", x.back(2), 0);
        DUE.due("61 the TAPE is not of it", x.count(10), 20);
        DUE.due("61 SLOTS are not of it", x.count(11), 2);
        DUE.due("61 the latest FAULT is not of it", x.fault(0), 1);
    }

    /** The HARBOUR as it is now may be none. */
    private static void imageOfNone() {
        LongBoats x = new LongBoats();
        DUE.due("60 of none", x.image(0), 0);
        Due.tell(x, Harbours.FULL);
        DUE.due("61 to none", x.back(0), 0);
        DUE.due("61 no LINES", x.count(9), 0);
        DUE.due("61 no MAN", x.man(0, 0), -2);
        DUE.due("61 none to rule", x.rule(0, 1), -2);
        DUE.due("61 another has nothing", x.back(1), -6);
    }
}
