/**
 * "There are none such", "no such what", "one twice": of each call each number at its least and its most is
 * taken, one step beyond is refused, and nothing happens then; without a HARBOUR it is refused too.
 */
public final class NoneSuchTest {
    private static final Due DUE = new Due("NoneSuchTest");

    /** Refused with -2; m, b, t are MEN, BOATS, TEAMS as many as are told. */
    private static final String[] TOLD = {
        "man m 0..5", "boat b 0..1", "speed b b", "force m b b 0..99", "stands m m b b 0..99",
        "pass m m b b 0..99 0..20", "why m m b b 0..99 0..20", "bout m m b b 0..1", "comes b b 0..12 0..2 0..1",
        "steer b b 0..100 1..100", "odds m m b b 0..3 0..1", "ends m m b b 0..3 0..1", "lasts m m b b 0..1",
        "best m m b b", "oars m m b b", "heavy m m b b", "even m m b b 0..1", "reply m m b b 0..9",
        "rests m m b b", "rest m m b b 0..1", "vain m m b b", "match t t 0..2", "wins t t", "sure t t",
        "pillar t t", "mend b 1..1 0..4", "mend b 0..0 2..12", "train m 0..0 40..200", "train m 1..1 0..30",
        "train m 2..2 0..30", "train m 3..3 0..9", "train m 4..4 0..4", "train m 5..5 0..2", "needed 1..4",
        "gaps 0..3", "himself 0..3 0..2", "odd 0..3", "wave b 0..999", "calm b 0..99", "champion b b",
        "beaten m b b", "ring b b", "feared m b b", "weary m m b b", "drawn 0..2000000000 m m b b 0..2",
        "years 0..2000000000 1..20 m m b b 0..3", "day 0..2000000000 t t 0..2",
    };

    private static final String[] GAMES = {
        "game m m b b 0..9 0..9", "safe m m b b 0..3", "margin m m b b 0..99", "part m m b b",
    };

    public static void main(String[] args) {
        for (String text : new String[] {Harbours.FULL, Harbours.THREE}) {
            told(new Bounds(DUE, text));
        }
        manyMates();
        without();
        DUE.close();
    }

    private static void told(Bounds bounds) {
        for (String form : TOLD) {
            boolean fixed = form.startsWith("mend") || form.startsWith("train");
            if (fixed) {
                bounds.holdOne(form, 1, -2);
                bounds.holdOne(form, 3, -2);
            } else {
                bounds.hold(form, -2);
            }
        }
        for (String form : GAMES) {
            bounds.hold(form, -1000);
        }
        beyondWhat(bounds);
        rules(bounds);
        judges(bounds);
        teams(bounds);
        imagesAndSlots(bounds);
    }

    /** What is one beyond, n one that would fit either neighbour. */
    private static void beyondWhat(Bounds bounds) {
        for (int n : new int[] {0, 1, 2, 4, 40}) {
            for (int what : new int[] {-1, 6, Integer.MIN_VALUE, Integer.MAX_VALUE}) {
                bounds.refused("train", -2, 0, what, n);
            }
            for (int what : new int[] {-1, 2, Integer.MIN_VALUE, Integer.MAX_VALUE}) {
                bounds.refused("mend", -2, 0, what, n);
            }
            for (int what : new int[] {-1, 4, Integer.MIN_VALUE, Integer.MAX_VALUE}) {
                bounds.refused("rule", -2, what, n);
            }
        }
    }

    private static void rules(Bounds bounds) {
        bounds.holdOne("rule 0..0 0..12", 2, -2);
        bounds.holdOne("rule 1..1 0..9", 2, -2);
        bounds.holdOne("rule 2..2 1..7", 2, -2);
        bounds.holdOne("rule 3..3 0..50", 2, -2);
    }

    /** K may be 0 .. n, n may be 1 .. 4. */
    private static void judges(Bounds bounds) {
        for (int n = 1; n <= 4; n++) {
            bounds.holdOne("judge 0.." + n + " " + n + "..4 0..1", 1, -2);
        }
        bounds.holdOne("judge 0..0 1..4 0..1", 2, -2);
        bounds.holdOne("judge 0..0 1..1 0..1", 3, -2);
    }

    private static void teams(Bounds bounds) {
        bounds.holdOne("team t -2..0", 1, -2);
        bounds.holdOne("led t t 0..0 0..3", 1, -2);
        bounds.holdOne("led t t 0..0 0..3", 2, -2);
        bounds.holdOne("led t t 0..0 0..3", 4, -2);
        bounds.holdOne("led t t 9..9 0..3", 4, -2);
        for (String call : new String[] {"order", "bold"}) {
            for (int i : new int[] {0, 9}) {
                String form = call + " t t " + i + ".." + i;
                bounds.holdOne(form, 1, -2);
                bounds.holdOne(form, 2, -2);
            }
        }
        bounds.holdOne("swap t 0..0 0..0", 1, -2);
    }

    private static void imagesAndSlots(Bounds bounds) {
        bounds.hold("image 0..2", -2);
        bounds.hold("back 0..2", -2);
        bounds.hold("count 0..11", -1);
        bounds.holdOne("row 0..3 0..3 0..60", 1, -2);
        bounds.holdOne("row 0..3 0..3 0..60", 2, -2);
        bounds.holdOne("write 0..3 0..2 0..0", 1, -2);
        bounds.holdOne("write 0..3 0..2 0..0", 2, -7);
        bounds.holdOne("paste 0..3 0..2 0..3 0..2 1..1", 1, -2);
        bounds.holdOne("paste 0..3 0..2 0..3 0..2 1..1", 2, -7);
        bounds.holdOne("paste 0..3 0..2 0..3 0..2 1..1", 3, -2);
        bounds.holdOne("paste 0..3 0..2 0..3 0..2 1..1", 4, -7);
        bounds.holdOne("paste 0..3 0..0 0..3 0..0 0..3", 5, -7);
    }

    /** Of FULL, TEAM 0 has two MEN, TEAM 1 five, TEAM 3 one. */
    private static void manyMates() {
        Bounds bounds = new Bounds(DUE, Harbours.FULL);
        bounds.holdOne("team 0..0 -2..1", 2, -1);
        bounds.holdOne("team 1..1 -2..4", 2, -1);
        bounds.holdOne("team 3..3 -2..0", 2, -1);
        int[] last = {1, 4, 1, 0};
        for (int team = 0; team <= 3; team++) {
            String of = " " + team + ".." + team + " ";
            int next = (team + 1) % 4;
            String pair = of + next + ".." + next + " ";
            bounds.holdOne("swap" + of + "0.." + last[team] + " 0..0", 2, -2);
            bounds.holdOne("swap" + of + "0..0 0.." + last[team], 3, -2);
            bounds.holdOne("order" + pair + "0.." + last[team], 3, -1);
            bounds.holdMost("bold" + pair + "-1.." + last[team], 3, -1);
            bounds.refused("bold", -1, team, next, -2);
        }
    }

    private static void without() {
        for (String form : TOLD) {
            // Of these a SLOT without a row is looked at first, or not at all.
            Bounds.holdWithout(DUE, form, -2);
        }
        for (String form : GAMES) {
            Bounds.holdWithout(DUE, form, -1000);
        }
        String[] others = {"team 0..0 -2..0", "team 0..0 -1..0", "team 0..0 0..0", "passed t t 0..0",
            "led t t 0..0 0..3", "order t t 0..0", "bold t t 0..0", "bold t t -1..0", "swap t 0..0 0..0",
            "rule 0..3 0..0", "rule 1..1 0..0", "rule 2..2 1..7", "rule 3..3 0..0", "judge 0..0 1..4 0..1"};
        for (String form : others) {
            Bounds.holdWithout(DUE, form, -2);
        }
    }
}
