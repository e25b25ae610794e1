/** Promises 1 to 8 and 59: the TAPE, the text and its FAULTS, what is told. */
public final class TextTest {
    private static final Due DUE = new Due("TextTest");
    private static final String HEAD = "harbour stream 1 gap 3 passes 3;";
    private static final String BOAT = "boat oars 4 slip 1;";
    private static final String MAN = "man weight 80 skill 5 quick 5 tires 1 leans 2 aims middle;";

    public static void main(String[] args) {
        newObject();
        tape();
        told();
        faults();
        lateFaults();
        staysAfterFault();
        counts();
        DUE.close();
    }

    private static void newObject() {
        LongBoats x = new LongBoats();
        for (int what = 0; what <= 11; what++) {
            DUE.due("new count(" + what + ")", x.count(what), 0);
        }
        DUE.due("new count(12)", x.count(12), -1);
        DUE.due("new count(-1)", x.count(-1), -1);
        DUE.due("new fault(0)", x.fault(0), 0);
        DUE.due("new fault(1)", x.fault(1), -1);
        DUE.due("new fault(2)", x.fault(2), -1);
        DUE.due("new man", x.man(0, 0), -2);
        DUE.due("new boat", x.boat(0, 0), -2);
        DUE.due("new team", x.team(0, -2), -2);
        DUE.due("NONE", LongBoats.NONE, -1);
    }

    private static void tape() {
        LongBoats x = new LongBoats();
        for (int i = 1; i <= 60; i++) {
            DUE.due("feed " + i, x.feed(1, 2, 3, 4, 5), 20 * i);
        }
        DUE.due("feed over", x.feed(1, 2, 3, 4, 5), -1);
        DUE.due("full", x.count(10), 1200);
        DUE.due("end above", x.end(1201), -1);
        DUE.due("end below", x.end(-1), -1);
        DUE.due("end least", x.end(Integer.MIN_VALUE), -1);
        DUE.due("end same", x.end(1200), 1200);
        DUE.due("end 1181", x.end(1181), 1181);
        DUE.due("feed over by one", x.feed(0, 0, 0, 0, 0), -1);
        DUE.due("stays", x.count(10), 1181);
        DUE.due("end 1180", x.end(1180), 1180);
        DUE.due("feed to the brim", x.feed(0, 0, 0, 0, 0), 1200);
        DUE.due("end 0", x.end(0), 0);
        DUE.due("empty", x.count(10), 0);
        // "errs" is 0x65727273: the highest byte comes first, so the FAULT is a word's, of one TOKEN.
        x.feed(0x65727273, 0x20353b3b, 0, 0, 0);
        x.end(4);
        DUE.due("errs ahead of harbour", x.harbour(), -4);
        DUE.due("its place", x.fault(1), 0);
        // "harbour stream 1 gap" is twenty bytes.
        x.feed(0x68617262, 0x6f757220, 0x73747265, 0x616d2031, 0x20676170);
        DUE.due("a text that ends within a LINE", x.harbour(), -4);
        DUE.due("its fault", x.fault(0), 1);
        DUE.due("the end's place", x.fault(1), 20);
    }

    private static void told() {
        LongBoats x = new LongBoats();
        DUE.due("LINES", Due.tell(x, Harbours.THREE), 9);
        DUE.due("the TAPE is empty then", x.count(10), 0);
        DUE.due("fault(0)", x.fault(0), 0);
        DUE.due("fault(1)", x.fault(1), -1);
        int[][] men = {{80, 10, 6, 2, 2, 0}, {95, 8, 9, 1, 4, 1}, {120, 12, 3, 3, 1, 2}};
        for (int m = 0; m < 3; m++) {
            for (int what = 0; what < 6; what++) {
                DUE.due("man(" + m + ", " + what + ")", x.man(m, what), men[m][what]);
            }
        }
        DUE.due("man(3, 0)", x.man(3, 0), -2);
        DUE.due("man(-1, 0)", x.man(-1, 0), -2);
        DUE.due("man(0, 6)", x.man(0, 6), -2);
        DUE.due("man(0, -1)", x.man(0, -1), -2);
        DUE.due("boat(0, 0)", x.boat(0, 0), 6);
        DUE.due("boat(1, 0)", x.boat(1, 0), 5);
        DUE.due("boat(1, 1)", x.boat(1, 1), 1);
        DUE.due("boat(2, 0)", x.boat(2, 0), -2);
        DUE.due("boat(0, 2)", x.boat(0, 2), -2);
        DUE.due("boat(0, -1)", x.boat(0, -1), -2);
        DUE.due("team(1, -2)", x.team(1, -2), 2);
        DUE.due("team(1, -1)", x.team(1, -1), 1);
        DUE.due("team(1, 0)", x.team(1, 0), 1);
        DUE.due("team(1, 1)", x.team(1, 1), 2);
        DUE.due("team(1, 2)", x.team(1, 2), -1);
        DUE.due("team(0, 1)", x.team(0, 1), -1);
        DUE.due("team(1, -3)", x.team(1, -3), -1);
        DUE.due("team(2, 0)", x.team(2, 0), -2);
        DUE.due("team(-1, -1)", x.team(-1, -1), -2);
        DUE.due("in place of another", Due.tell(x, HEAD + BOAT), 2);
        DUE.due("no MEN then", x.count(1), 0);
        DUE.due("0 LINES", Due.tell(x, " \n "), 0);
        DUE.due("no HARBOUR then", x.count(9) + x.count(0) + x.count(6) + x.count(7), 0);
        DUE.due("blanks are not needed", Due.tell(x, "harbour\nstream1gap3passes3;boat oars2slip0 ;"), 2);
        DUE.due("leading zeros", Due.tell(x, "harbour stream 0001 gap 00000000000003 passes 3;"), 1);
        DUE.due("gap", x.count(4), 3);
    }

    private static void fault(String text, int fault, int place) {
        LongBoats x = new LongBoats();
        DUE.due("harbour() of " + text, Due.tell(x, text), -4);
        DUE.due("fault(0) of " + text, x.fault(0), fault);
        DUE.due("fault(1) of " + text, x.fault(1), place);
        DUE.due("fault(2) of " + text, x.fault(2), -1);
    }

    private static void faults() {
        fault(";", 1, 0);
        fault("7", 1, 0);
        fault(" \nboat oars 2 slip 0;", 1, 2);
        fault("harbours stream 1 gap 3 passes 3;", 1, 0);
        fault("harbourz stream 1 gap 3 passes 3;", 1, 0);
        fault("aharbour stream 1 gap 3 passes 3;", 1, 0);
        fault("harbour`stream 1 gap 3 passes 3;", 1, 7);
        fault("harbour{stream 1 gap 3 passes 3;", 1, 7);
        fault("harbour stream 1/gap 3 passes 3;", 1, 16);
        fault("harbour stream 1:gap 3 passes 3;", 1, 16);
        fault("harbour stream 1\rgap 3 passes 3;", 1, 16);
        fault("harbour stream 1\u00ffgap 3 passes 3;", 1, 16);
        fault("harbour stream 1\u0000gap 3 passes 3;", 1, 16);
        fault("harbour stream 1;", 1, 16);
        fault("harbour stream 10 gap 3 passes 3;", 2, 15);
        fault("harbour stream 4294967297 gap 3 passes 3;", 2, 15);
        fault("harbour stream 1 gap 13 passes 3;", 2, 21);
        fault("harbour stream 1 gap 3 passes 0;", 2, 30);
        fault("harbour stream 1 gap 3 passes 8;", 2, 30);
        fault("harbour stream 1 gap 3 passes 3", 1, 31);
        fault("harbour stream 1 gap 3 passes 3  ", 1, 33);
        fault("harbour stream -1 gap 3 passes 3;", 1, 15);
        fault("Harbour stream 1 gap 3 passes 3;", 1, 0);
        fault(HEAD + ";", 1, 32);
        fault(HEAD + "3", 1, 32);
        fault(HEAD + "oars", 1, 32);
        fault(HEAD + HEAD, 1, 32);
        fault(HEAD + "\t", 1, 32);
        fault(HEAD + "boat oars 1 slip 0;", 2, 42);
        fault(HEAD + "boat oars 13 slip 0;", 2, 42);
        fault(HEAD + "boat oars 2 slip 5;", 2, 49);
        fault(HEAD + "boat slip 2;", 1, 37);
        fault(HEAD + "reach 13 to 13;", 2, 38);
        fault(HEAD + "reach 5 to 13;", 2, 43);
        fault(HEAD + "reach 5 to 4;", 2, 43);
        fault(HEAD + "reach 5 5;", 1, 40);
        fault(HEAD + "errs 51;", 2, 37);
        fault(HEAD + "errs 5 5;", 1, 39);
        fault(HEAD + "errs ;", 1, 37);
        fault(HEAD + MAN.replace("80", "39"), 2, 43);
        fault(HEAD + MAN.replace("80", "201"), 2, 43);
        fault(HEAD + MAN.replace("skill 5", "skill 31"), 2, 52);
        fault(HEAD + MAN.replace("quick 5", "quick 31"), 2, 60);
        fault(HEAD + MAN.replace("tires 1", "tires 10"), 2, 68);
        fault(HEAD + MAN.replace("leans 2", "leans 5"), 2, 76);
        fault(HEAD + MAN.replace("middle", "side"), 1, 83);
        fault(HEAD + MAN.replace("middle", "3"), 1, 83);
        fault(HEAD + MAN.replace("quick", "tires"), 1, 54);
    }

    private static void lateFaults() {
        fault(HEAD + "team 0 0;", 2, 37);
        fault(HEAD + BOAT + "team 1 0;", 2, 56);
        fault(HEAD + BOAT + "team 0 0;", 2, 58);
        fault(HEAD + BOAT + "team 0;", 1, 57);
        fault(HEAD + BOAT + "team boat;", 1, 56);
        fault(HEAD + BOAT + MAN + "team 0 0 0;", 2, 118);
        fault(HEAD + BOAT + MAN + "team 0 0 1;", 2, 118);
        fault(HEAD + BOAT + MAN + "team 0 0 edge;", 1, 118);
        fault(HEAD + BOAT.repeat(5), 3, 32 + 4 * 19);
        fault(HEAD + BOAT.repeat(4) + "boat", 3, 32 + 4 * 19);
        fault(HEAD + MAN.repeat(11), 3, 32 + 10 * 58);
        fault(HEAD + BOAT + MAN + "team 0 0;".repeat(5), 3, 109 + 4 * 9);
        String crew = HEAD + BOAT + MAN.repeat(6) + "team 0 0 1 2 3 4";
        int sixth = crew.length() + 1;
        fault(crew + " 5;", 3, sixth);
        fault(crew + " 4;", 2, sixth);
        fault(crew + " 6;", 2, sixth);
        fault(crew + " man;", 1, sixth);
        LongBoats x = new LongBoats();
        DUE.due("five MEN", Due.tell(x, crew + ";"), 9);
        DUE.due("four boats, ten men", Due.tell(x, HEAD + BOAT.repeat(4) + MAN.repeat(10)), 15);
    }

    private static void staysAfterFault() {
        LongBoats x = Due.told(Harbours.THREE);
        DUE.due("a fault", Due.tell(x, "harbour stream 9 gap 1 passes 9;"), -4);
        DUE.due("stream stays", x.count(3), 3);
        DUE.due("gap stays", x.count(4), 3);
        DUE.due("LINES stay", x.count(9), 9);
        DUE.due("MEN stay", x.count(1), 3);
        DUE.due("fault(0)", x.fault(0), 2);
        // A text told next, without end(0), stands alone.
        x.feed(0x68617262, 0x6f757220, 0x73747265, 0x616d2031, 0x20676170);
        DUE.due("the next text", x.count(10), 20);
        DUE.due("its fault", x.harbour() * 100 + x.fault(1), -380);
        DUE.due("the empty TAPE", x.harbour(), 0);
        DUE.due("fault(0) of the latest", x.fault(0), 0);
        DUE.due("fault(1) of the latest", x.fault(1), -1);
    }

    private static void counts() {
        LongBoats x = Due.told(HEAD + BOAT + MAN);
        DUE.due("reach from, without", x.count(6), 2);
        DUE.due("reach to, without", x.count(7), 4);
        DUE.due("errs, without", x.count(8), 0);
        Due.tell(x, HEAD + "reach 5 to 9;" + BOAT + BOAT + MAN + "errs 7;reach 0 to 12;errs 50;team 1 0;reach 3 to 3;");
        int[] want = {2, 1, 1, 1, 3, 3, 3, 3, 50, 10, 0, 0};
        for (int what = 0; what < want.length; what++) {
            DUE.due("count(" + what + ")", x.count(what), want[what]);
        }
        x.feed(0, 0, 0, 0, 0);
        x.row(2, 0, 0);
        x.row(3, 3, 60);
        DUE.due("count(10)", x.count(10), 20);
        DUE.due("count(11)", x.count(11), 2);
        DUE.due("count(12)", x.count(12), -1);
        DUE.due("count(MIN)", x.count(Integer.MIN_VALUE), -1);
    }
}
