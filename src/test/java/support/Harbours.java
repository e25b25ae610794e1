/** Texts that several tests tell. */
final class Harbours {
    /**
     * SPEED of BOATS 0 and 1 is 8. FORCE with p passes: 20 - 2p, 23 - p, 12 - 3p. MAN 0 STANDS 11
     * against 1, 14 against 2; 1 STANDS 9 against 0; 2 STANDS 18 against 0, 15 against 1.
     */
    static final String THREE = "harbour stream 3 gap 3 passes 3;"
            + "boat oars 6 slip 1;boat oars 5 slip 1;"
            + "man weight 80 skill 10 quick 6 tires 2 leans 2 aims middle;"
            + "man weight 95 skill 8 quick 9 tires 1 leans 4 aims corner;"
            + "man weight 120 skill 12 quick 3 tires 3 leans 1 aims edge;"
            + "team 0 0;team 1 1 2;errs 10;";

    /**
     * SPEED is 4. MAN 0 is weak: FORCE 10, STANDS 2. MAN 1 is strong and tires: FORCE 40 - 9p, STANDS
     * 48 less half of 9p. MEN 2 .. 5 have FORCE 10 and STAND 15: the strong one has out three of them.
     */
    static final String CREWS = "harbour stream 0 gap 3 passes 2;"
            + "boat oars 2 slip 0;boat oars 2 slip 1;"
            + "man weight 40 skill 0 quick 0 tires 0 leans 2 aims middle;"
            + "man weight 200 skill 30 quick 30 tires 9 leans 2 aims middle;"
            + "man weight 170 skill 0 quick 0 tires 0 leans 2 aims middle;"
            + "man weight 170 skill 0 quick 0 tires 0 leans 2 aims middle;"
            + "man weight 170 skill 0 quick 0 tires 0 leans 2 aims middle;"
            + "man weight 170 skill 0 quick 0 tires 0 leans 2 aims middle;"
            + "team 0 0 1;team 1 2 3 4 5;team 1 5 1;team 0 1;";

    private Harbours() {
    }
}
