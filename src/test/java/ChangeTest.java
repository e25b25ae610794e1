/** Promises 38 to 41, 60, 61: changes, and images gone back to. */
public final class ChangeTest {
    private static final Due DUE = new Due("ChangeTest");

    public static void main(String[] args) {
        swaps();
        trains();
        mendsAndRules();
        images();
        DUE.close();
    }

    private static void swaps() {
        LongBoats x = Due.told(Harbours.CREWS);
        DUE.due("swap", x.swap(1, 0, 3), 0);
        DUE.due("first", x.team(1, 0), 5);
        DUE.due("last", x.team(1, 3), 2);
        DUE.due("swap alike", x.swap(1, 2, 2), 0);
        DUE.due("third", x.team(1, 2), 4);
        DUE.due("swap 4", x.swap(1, 0, 4), -2);
        DUE.due("swap -1", x.swap(1, -1, 0), -2);
        DUE.due("swap team 4", x.swap(4, 0, 0), -2);
        DUE.due("boat stays", x.team(1, -1), 1);
        DUE.due("no HARBOUR", new LongBoats().swap(0, 0, 0), -2);
    }

    private static void trains() {
        LongBoats x = Due.told(Harbours.THREE);
        int[] least = {40, 0, 0, 0, 0, 0};
        int[] most = {200, 30, 30, 9, 4, 2};
        int[] was = {95, 8, 9, 1, 4, 1};
        for (int what = 0; what < 6; what++) {
            DUE.due("train below " + what, x.train(1, what, least[what] - 1), -2);
            DUE.due("train above " + what, x.train(1, what, most[what] + 1), -2);
            DUE.due("train least " + what, x.train(1, what, least[what]), was[what]);
            DUE.due("train most " + what, x.train(1, what, most[what]), least[what]);
            DUE.due("trained " + what, x.man(1, what), most[what]);
        }
        DUE.due("the others stay", x.man(0, 0) + x.man(2, 5), 82);
        DUE.due("train what 6", x.train(1, 6, 1), -2);
        DUE.due("train what -1", x.train(1, -1, 1), -2);
        DUE.due("train man 3", x.train(3, 0, 50), -2);
        DUE.due("no HARBOUR", new LongBoats().train(0, 0, 50), -2);
    }

    private static void mendsAndRules() {
        LongBoats x = Due.told(Harbours.THREE);
        DUE.due("mend oars 1", x.mend(0, 0, 1), -2);
        DUE.due("mend oars 13", x.mend(0, 0, 13), -2);
        DUE.due("mend oars 12", x.mend(0, 0, 12), 6);
        DUE.due("mend oars 2", x.mend(0, 0, 2), 12);
        DUE.due("mend slip -1", x.mend(0, 1, -1), -2);
        DUE.due("mend slip 5", x.mend(0, 1, 5), -2);
        DUE.due("mend slip 4", x.mend(0, 1, 4), 1);
        DUE.due("mended", x.boat(0, 0) * 10 + x.boat(0, 1), 24);
        DUE.due("mend what 2", x.mend(0, 2, 3), -2);
        DUE.due("mend boat 2", x.mend(2, 0, 3), -2);
        int[] least = {0, 0, 1, 0};
        int[] most = {12, 9, 7, 50};
        int[] was = {3, 3, 3, 10};
        int[] counted = {4, 3, 5, 8};
        for (int what = 0; what < 4; what++) {
            DUE.due("rule below " + what, x.rule(what, least[what] - 1), -2);
            DUE.due("rule above " + what, x.rule(what, most[what] + 1), -2);
            DUE.due("rule most " + what, x.rule(what, most[what]), was[what]);
            DUE.due("rule least " + what, x.rule(what, least[what]), most[what]);
            DUE.due("ruled " + what, x.count(counted[what]), least[what]);
        }
        DUE.due("rule what 4", x.rule(4, 1), -2);
        DUE.due("rule what -1", x.rule(-1, 1), -2);
        for (int what = 0; what < 4; what++) {
            DUE.due("rule without a HARBOUR", new LongBoats().rule(what, 1), -2);
        }
    }

    private static void images() {
        LongBoats x = new LongBoats();
        DUE.due("back to nothing", x.back(0), -6);
        DUE.due("back 3", x.back(3), -2);
        DUE.due("back -1", x.back(-1), -2);
        DUE.due("image 3", x.image(3), -2);
        DUE.due("image -1", x.image(-1), -2);
        DUE.due("image of no HARBOUR", x.image(2), 0);
        Due.tell(x, Harbours.THREE);
        DUE.due("image", x.image(0), 0);
        x.train(0, 0, 200);
        x.mend(1, 1, 4);
        x.swap(1, 0, 1);
        x.rule(0, 9);
        x.rule(1, 9);
        x.rule(2, 7);
        x.rule(3, 50);
        x.row(0, 0, 3);
        DUE.due("image 1", x.image(1), 0);
        DUE.due("back", x.back(0), 0);
        DUE.due("weight", x.man(0, 0), 80);
        DUE.due("slip", x.boat(1, 1), 1);
        DUE.due("mate", x.team(1, 0), 1);
        DUE.due("rules", x.count(4) * 1000 + x.count(3) * 100 + x.count(5) * 10 + x.count(8), 3340);
        DUE.due("a SLOT is not of it", x.count(11), 1);
        x.train(0, 0, 41);
        DUE.due("back once more", x.back(0), 0);
        DUE.due("an IMAGE stays", x.man(0, 0), 80);
        DUE.due("back 1", x.back(1), 0);
        DUE.due("weight 1", x.man(0, 0), 200);
        DUE.due("mate 1", x.team(1, 0), 2);
        Due.tell(x, "harbour stream 0 gap 0 passes 1;reach 1 to 7;");
        DUE.due("back over another", x.back(0), 0);
        DUE.due("reach", x.count(6) * 10 + x.count(7), 24);
        DUE.due("LINES", x.count(9), 9);
        DUE.due("back to no HARBOUR", x.back(2), 0);
        DUE.due("none", x.count(9) + x.count(0) + x.count(1) + x.count(2) + x.count(7), 0);
        DUE.due("none to rule", x.rule(0, 1), -2);
        DUE.due("other IMAGES stay", x.back(1), 0);
    }
}
