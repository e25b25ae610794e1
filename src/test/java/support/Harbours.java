/** Texts that several tests tell. */
final class Harbours {
    /**
     * SPEED of BOATS 0 and 1 is 8. FORCE with p passes: 20 - 2p, 23 - p, 12 - 3p. MAN 0 STANDS 11
     * against 1, 14 against 2; 1 STANDS 9 against 0; 2 STANDS 18 against 0, 15 against 1.
     */
    static final String THREE = "harbour stream 3 gap 3 passes 3;"
            + "boat oars 6 slip 1;boat oars 5 slip 1;"
            + "man weight 80 skill 10 quick 6 tires 2 leans 2 aims middle;"
            + "man weight 95 skill 8 quick 9 tires 1 leans 4 aims corner;"
            + "man weight 120 skill 12 quick 3 tires 3 leans 1 aims edge;"
            + "team 0 0;team 1 1 2;errs 10;";

    /**
     * SPEED is 4. MAN 0 is weak: FORCE 10, STANDS 2. MAN 1 is strong and tires: FORCE 40 - 9p, STANDS
     * 48 less half of 9p. MEN 2 .. 5 have FORCE 10 and STAND 15: the strong one has out three of them.
     */
    static final String CREWS = "harbour stream 0 gap 3 passes 2;"
            + "boat oars 2 slip 0;boat oars 2 slip 1;"
            + "man weight 40 skill 0 quick 0 tires 0 leans 2 aims middle;"
            + "man weight 200 skill 30 quick 30 tires 9 leans 2 aims middle;"
            + "man weight 170 skill 0 quick 0 tires 0 leans 2 aims middle;"
            + "man weight 170 skill 0 quick 0 tires 0 leans 2 aims middle;"
            + "man weight 170 skill 0 quick 0 tires 0 leans 2 aims middle;"
            + "man weight 170 skill 0 quick 0 tires 0 leans 2 aims middle;"
            + "team 0 0 1;team 1 2 3 4 5;team 1 5 1;team 0 1;";

    /** As much as a text may tell: 4 BOATS, 10 MEN, 4 TEAMS, none of whom has a MAN of another one. */
    static final String FULL = head(3, 3, 3) + boat(6, 1) + boat(5, 2) + boat(4, 0) + boat(7, 4)
            + man(80, 10, 6, 2, 2, "middle") + man(95, 8, 9, 1, 4, "corner") + man(120, 12, 3, 3, 1, "edge")
            + man(70, 9, 4, 0, 0, "middle") + man(60, 20, 8, 9, 3, "corner") + man(140, 1, 2, 2, 2, "middle")
            + man(40, 0, 0, 0, 2, "middle") + man(200, 30, 30, 9, 2, "corner") + man(99, 15, 12, 4, 4, "middle")
            + man(101, 16, 11, 5, 1, "corner")
            + "team 0 0 1;team 1 2 3 4 5 6;team 2 7 8;team 3 9;errs 10;";

    private Harbours() {
    }

    static String head(int stream, int gap, int passes) {
        return "harbour stream " + stream + " gap " + gap + " passes " + passes + ";";
    }

    static String boat(int oars, int slip) {
        return "boat oars " + oars + " slip " + slip + ";";
    }

    static String man(int weight, int skill, int quick, int tires, int leans, String aims) {
        return "man weight " + weight + " skill " + skill + " quick " + quick + " tires " + tires
                + " leans " + leans + " aims " + aims + ";";
    }

    /** Two BOATS of SPEED 0 that do not slip, and MEN: FORCE and how one STANDS are theirs alone. */
    static String still(int gap, int passes, String... men) {
        return head(4, gap, passes) + boat(2, 0) + boat(2, 0) + String.join("", men);
    }
}
