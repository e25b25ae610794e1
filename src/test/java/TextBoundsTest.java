import java.util.function.ToIntFunction;

/** Promises 1 to 5 and the Terms' I: each sentence that bounds the TAPE or what a text tells. */
public final class TextBoundsTest {
    private static final Due DUE = new Due("TextBoundsTest");
    private static final String HEAD = Harbours.head(1, 3, 3);
    private static final String BOAT = Harbours.boat(4, 1);
    private static final String MAN = Harbours.man(80, 5, 5, 1, 2, "edge");

    public static void main(String[] args) {
        newObject();
        feedToTheBrim();
        fedBytes();
        ends();
        emptyTexts();
        longestTexts();
        afterFault();
        teamsInPlace();
        faultsAsked();
        numbers();
        mates();
        counted();
        everyByte();
        longestTokens();
        lettersOfWords();
        firstByPlace();
        leastOfOnePlace();
        endsPlace();
        laterOnesStrike();
        DUE.close();
    }

    /** Promise 1: No HARBOUR. */
    private static void newObject() {
        LongBoats x = new LongBoats();
        for (int what = 0; what <= 11; what++) {
            DUE.due("1 count(" + what + ")", x.count(what), 0);
        }
        DUE.due("1 no HARBOUR to rule", x.rule(0, 3), -2);
        DUE.due("1 no IMAGE", x.back(0), -6);
        DUE.due("1 no row", x.write(0, 0, 0), -6);
        DUE.due("1 no TAPE", x.end(1), -1);
    }

    private static void blanks(LongBoats x, int feeds) {
        for (int i = 0; i < feeds; i++) {
            x.feed(0x20202020, 0x20202020, 0x20202020, 0x20202020, 0x20202020);
        }
    }

    /** Promise 2: NONE, and none come, if it would have more than 1,200. */
    private static void feedToTheBrim() {
        LongBoats x = new LongBoats();
        blanks(x, 59);
        DUE.due("2 at 1,180", x.count(10), 1180);
        DUE.due("2 to 1,200", x.feed(0, 0, 0, 0, 0), 1200);
        DUE.due("2 beyond 1,200", x.feed(0, 0, 0, 0, 0), -1);
        DUE.due("2 none come at 1,200", x.count(10), 1200);
        for (int has = 1199; has >= 1181; has--) {
            x.end(has);
            DUE.due("2 at " + has, x.feed(0, 0, 0, 0, 0), -1);
            DUE.due("2 none come at " + has, x.count(10), has);
        }
        x.end(1180);
        DUE.due("2 at 1,180 once more", x.feed(0, 0, 0, 0, 0), 1200);
        x.end(1179);
        DUE.due("2 at 1,179", x.feed(0, 0, 0, 0, 0), 1199);
        // What is refused leaves no byte behind: 1,181 blanks are no LINE, and no FAULT.
        x = new LongBoats();
        blanks(x, 60);
        x.end(1181);
        DUE.due("2 refused", x.feed(0x3b3b3b3b, 0x3b3b3b3b, 0x3b3b3b3b, 0x3b3b3b3b, 0x3b3b3b3b), -1);
        DUE.due("2 nothing but blanks", x.harbour(), 0);
    }

    /** Promise 2: four bytes of each number, the highest first. */
    private static void fedBytes() {
        for (int place = 0; place < 20; place++) {
            int[] w = {0x20202020, 0x20202020, 0x20202020, 0x20202020, 0x20202020};
            w[place / 4] = w[place / 4] & ~(255 << 24 - place % 4 * 8) | 59 << 24 - place % 4 * 8;
            LongBoats x = new LongBoats();
            DUE.due("2 twenty", x.feed(w[0], w[1], w[2], w[3], w[4]), 20);
            DUE.due("2 a sign at " + place, x.harbour(), -4);
            DUE.due("2 its place " + place, x.fault(1), place);
        }
        LongBoats x = new LongBoats();
        blanks(x, 1);
        DUE.due("2 behind", x.feed(-1, -1, -1, -1, -1), 40);
        x.harbour();
        DUE.due("2 a byte of 255 behind", x.fault(1), 20);
    }

    /** Promise 3: n; NONE, and nothing happens, if it has not so many, or n is below 0. */
    private static void ends() {
        LongBoats x = new LongBoats();
        DUE.due("3 end(0) of none", x.end(0), 0);
        DUE.due("3 end(1) of none", x.end(1), -1);
        DUE.due("3 end(-1) of none", x.end(-1), -1);
        blanks(x, 1);
        DUE.due("3 end(21) of 20", x.end(21), -1);
        DUE.due("3 nothing happens above", x.count(10), 20);
        DUE.due("3 end(-1) of 20", x.end(-1), -1);
        DUE.due("3 end(MIN) of 20", x.end(Integer.MIN_VALUE), -1);
        DUE.due("3 end(MAX) of 20", x.end(Integer.MAX_VALUE), -1);
        DUE.due("3 nothing happens", x.count(10), 20);
        DUE.due("3 end(20) of 20", x.end(20), 20);
        DUE.due("3 end(19) of 20", x.end(19), 19);
        DUE.due("3 end(20) of 19", x.end(20), -1);
        DUE.due("3 end(0) of 19", x.end(0), 0);
        blanks(x, 60);
        DUE.due("3 end(1,200) of 1,200", x.end(1200), 1200);
        DUE.due("3 end(1,201) of 1,200", x.end(1201), -1);
        // The first n alone: a sign behind them is gone, also when other bytes come there.
        x.end(0);
        x.feed(0x20202020, 0x3b3b3b3b, 0x3b3b3b3b, 0x3b3b3b3b, 0x3b3b3b3b);
        DUE.due("3 the first 4", x.end(4), 4);
        DUE.due("3 come behind these", x.feed(0x20202020, 0x20202020, 0x20202020, 0x20202020, 0x2020203b), 24);
        x.harbour();
        DUE.due("3 the place of the one sign", x.fault(1), 23);
        x.feed(0x20202020, 0x3b3b3b3b, 0x3b3b3b3b, 0x3b3b3b3b, 0x3b3b3b3b);
        x.end(4);
        DUE.due("3 blanks alone", x.harbour(), 0);
    }

    /** Promise 4: how many LINES (0: there is none then), the TAPE is empty then. */
    private static void emptyTexts() {
        String[] texts = {"", " ", "\n", " \n \n\n  "};
        for (String text : texts) {
            LongBoats x = Due.told(Harbours.THREE);
            DUE.due("4 no LINE", Due.tell(x, text), 0);
            for (int what = 0; what <= 11; what++) {
                DUE.due("4 there is none then, count(" + what + ")", x.count(what), 0);
            }
            DUE.due("4 none to rule", x.rule(1, 1), -2);
            DUE.due("4 no MAN", x.man(0, 0), -2);
            DUE.due("4 no BOAT", x.boat(0, 0), -2);
            DUE.due("4 no TEAM", x.team(0, -1), -2);
            DUE.due("4 no FAULT", x.fault(0), 0);
            DUE.due("4 no place", x.fault(1), -1);
        }
        LongBoats x = Due.told(Harbours.THREE);
        DUE.due("4 the TAPE is empty then", x.count(10), 0);
        DUE.due("4 so that the next is of no LINE", x.harbour(), 0);
        DUE.due("4 one LINE", Due.tell(x, HEAD), 1);
        DUE.due("4 in place of another: no MEN", x.count(1), 0);
        DUE.due("4 in place of another: no TEAMS", x.count(2), 0);
        DUE.due("4 in place of another: errs", x.count(8), 0);
        DUE.due("4 nobody there", x.man(0, 0), -2);
    }

    /** Texts of 1,200 bytes: as many LINES as there is room for. */
    private static void longestTexts() {
        String text = HEAD + "errs 1;".repeat(166) + "errs2;";
        DUE.due("1,200 bytes", text.length(), 1200);
        LongBoats x = new LongBoats();
        DUE.due("4 of 1,200 bytes", Due.tell(x, text), 168);
        DUE.due("4 LINES", x.count(9), 168);
        DUE.due("4 the last one strikes", x.count(8), 2);
        DUE.due("4 one byte less", Due.tell(x, text.substring(0, 1199)), -4);
        DUE.due("4 the end's place", x.fault(1), 1199);
        DUE.due("4 the sign is none", Due.tell(x, text.substring(0, 1199) + ":"), -4);
        DUE.due("4 its place", x.fault(1), 1199);
        DUE.due("4 blanks to the end", Due.tell(x, HEAD + " ".repeat(1200 - HEAD.length())), 1);
        DUE.due("4 digits to the end", Due.tell(x, "harbour stream " + "0".repeat(1168) + " gap 3 passes 3;"), 1);
        DUE.due("4 nines to the end", Due.tell(x, "harbour stream " + "9".repeat(1185)), -4);
        DUE.due("4 nines are out of bounds", x.fault(0) * 10000 + x.fault(1), 20015);
        DUE.due("4 a word to the end", Due.tell(x, "h".repeat(1200)), -4);
        DUE.due("4 the word's place", x.fault(0) * 10000 + x.fault(1), 10000);
        DUE.due("4 as much as may be told", Due.tell(x, Harbours.FULL), 20);
    }

    /** Promise 4: -4: a FAULT (all stays). */
    private static void afterFault() {
        LongBoats x = Due.told(Harbours.THREE);
        x.row(0, 0, 3);
        x.write(0, 1, 1);
        x.image(1);
        String before = State.of(x).replaceAll("fault \\S+ \\S+", "");
        DUE.due("4 a FAULT behind many LINES", Due.tell(x, Harbours.FULL + "errs 51;"), -4);
        DUE.dueText("4 all stays", State.of(x).replaceAll("fault \\S+ \\S+", ""), before);
        x.rule(0, 9);
        DUE.due("4 an IMAGE stays", x.back(1), 0);
        DUE.due("4 as it was", x.count(4), 3);
        LongBoats none = new LongBoats();
        DUE.due("4 a FAULT ahead of any HARBOUR", Due.tell(none, HEAD + "boat"), -4);
        DUE.due("4 there is none yet", none.count(9) + none.count(4) + none.count(7), 0);
    }

    /** Promise 4: in place of another: of its TEAMS nothing is left, nor of those of a text with a FAULT. */
    private static void teamsInPlace() {
        String crew = HEAD + BOAT + MAN.repeat(3);
        LongBoats x = Due.told(crew + "team 0 0 1;team 0 2;");
        for (String ahead : new String[] {crew + "team 0 0 1 2;", crew + "team 0 2 1 0;team 0 9;", crew + "team 0 2"}) {
            Due.tell(x, ahead);
            DUE.due("4 another in place", Due.tell(x, crew + "team 0 2;team 0 1 0;"), 7);
            DUE.due("4 one MAN", x.team(0, -2) * 100 + x.team(0, 0), 102);
            DUE.due("4 no second MAN", x.team(0, 1), -1);
            DUE.due("4 two MEN", x.team(1, -2) * 100 + x.team(1, 0) * 10 + x.team(1, 1), 210);
            DUE.due("4 no third TEAM", x.team(2, -2), -2);
        }
    }

    /** Promise 5. */
    private static void faultsAsked() {
        LongBoats x = new LongBoats();
        DUE.due("5 ahead of any, what 1", x.fault(1), -1);
        DUE.due("5 ahead of any, what 0", x.fault(0), 0);
        for (int round = 0; round < 3; round++) {
            for (int what : new int[] {-1, 2, Integer.MIN_VALUE, Integer.MAX_VALUE}) {
                DUE.due("5 fault(" + what + ")", x.fault(what), -1);
            }
            Due.tell(x, round == 0 ? HEAD + "errs 51;" : HEAD);
            DUE.due("5 what 0", x.fault(0), round == 0 ? 2 : 0);
            DUE.due("5 what 1", x.fault(1), round == 0 ? 37 : -1);
        }
        DUE.due("5 a FAULT at place 0", Due.tell(x, ";"), -4);
        DUE.due("5 place 0", x.fault(1), 0);
        x.image(0);
        x.back(0);
        x.end(0);
        x.feed(0, 0, 0, 0, 0);
        x.end(0);
        DUE.due("5 of the latest harbour(), whatever else is called", x.fault(0), 1);
        DUE.due("5 the empty TAPE", x.harbour(), 0);
        DUE.due("5 without", x.fault(0), 0);
        DUE.due("5 no place without", x.fault(1), -1);
    }

    private static void number(String form, int least, int most, ToIntFunction<LongBoats> told) {
        int place = form.indexOf('#');
        for (int n = least; n <= most; n++) {
            LongBoats x = new LongBoats();
            DUE.due("I " + n + " in " + form, Due.tell(x, form.replace("#", "" + n)) > 0 ? 1 : 0, 1);
            DUE.due("I told " + n + " in " + form, told.applyAsInt(x), n);
        }
        LongBoats x = new LongBoats();
        DUE.due("I zeros ahead in " + form, Due.tell(x, form.replace("#", "000000000000" + most)) > 0 ? 1 : 0, 1);
        DUE.due("I told with zeros ahead in " + form, told.applyAsInt(x), most);
        if (least > 0) {
            wrong(form, "" + (least - 1), 2, place);
            wrong(form, "0", 2, place);
        }
        wrong(form, "" + (most + 1), 2, place);
        String[] around = {"256", "65536", "4294967296", "18446744073709551616"};
        for (String round : around) {
            wrong(form, new java.math.BigInteger(round).add(java.math.BigInteger.valueOf(most)).toString(), 2, place);
        }
        wrong(form, "2147483647", 2, place);
        wrong(form, "2147483648", 2, place);
        wrong(form, "99999999999999999999999999", 2, place);
        wrong(form, "-1", 1, place);
        wrong(form, "+1", 1, place);
        wrong(form, "one", 1, place);
    }

    private static void wrong(String form, String number, int fault, int place) {
        fault(form.replace("#", number), fault, place);
    }

    private static void fault(String text, int fault, int place) {
        LongBoats x = new LongBoats();
        DUE.due("harbour() of " + text, Due.tell(x, text), -4);
        DUE.due("fault(0) of " + text, x.fault(0), fault);
        DUE.due("fault(1) of " + text, x.fault(1), place);
    }

    /** I: the bounds of each number of each LINE. */
    private static void numbers() {
        number("harbour stream # gap 3 passes 3;", 0, 9, x -> x.count(3));
        number("harbour stream 1 gap # passes 3;", 0, 12, x -> x.count(4));
        number("harbour stream 1 gap 3 passes #;", 1, 7, x -> x.count(5));
        number(HEAD + "reach # to 12;", 0, 12, x -> x.count(6));
        for (int from = 0; from <= 12; from++) {
            number(HEAD + "reach " + from + " to #;", from, 12, x -> x.count(7));
        }
        number(HEAD + "boat oars # slip 1;", 2, 12, x -> x.boat(0, 0));
        number(HEAD + "boat oars 4 slip #;", 0, 4, x -> x.boat(0, 1));
        number(HEAD + MAN.replace("80", "#"), 40, 200, x -> x.man(0, 0));
        number(HEAD + MAN.replace("skill 5", "skill #"), 0, 30, x -> x.man(0, 1));
        number(HEAD + MAN.replace("quick 5", "quick #"), 0, 30, x -> x.man(0, 2));
        number(HEAD + MAN.replace("tires 1", "tires #"), 0, 9, x -> x.man(0, 3));
        number(HEAD + MAN.replace("leans 2", "leans #"), 0, 4, x -> x.man(0, 4));
        number(HEAD + "errs #;", 0, 50, x -> x.count(8));
        String[] aims = {"middle", "corner", "edge"};
        for (int i = 0; i < 3; i++) {
            DUE.due("I aims", Due.told(HEAD + MAN.replace("edge", aims[i])).man(0, 5), i);
        }
        String[] words = {"edg", "edges", "mid", "corners", "none", "aims", "man"};
        for (String word : words) {
            fault(HEAD + MAN.replace("edge", word), 1, HEAD.length() + MAN.indexOf("edge"));
        }
        fault(HEAD + MAN.replace("edge", "2"), 1, HEAD.length() + MAN.indexOf("edge"));
    }

    /** I: a BOAT told ahead, unlike MEN told ahead. */
    private static void mates() {
        for (int boats = 1; boats <= 4; boats++) {
            number(HEAD + BOAT.repeat(boats) + MAN + "team # 0;", 0, boats - 1, x -> x.team(0, -1));
        }
        for (int men = 1; men <= 10; men++) {
            number(HEAD + BOAT + MAN.repeat(men) + "team 0 #;", 0, men - 1, x -> x.team(0, 0));
        }
        fault(HEAD + MAN + "team 0 0;" + BOAT, 2, HEAD.length() + MAN.length() + 5);
        fault(HEAD + BOAT + "team 0 0;" + MAN, 2, HEAD.length() + BOAT.length() + 7);
        String crew = HEAD + BOAT + MAN.repeat(10) + "team 0";
        String[] mates = {" 7", " 3", " 9", " 0", " 5"};
        StringBuilder told = new StringBuilder(crew);
        for (int many = 0; many < 5; many++) {
            for (int k = 0; k < many; k++) {
                fault(told + mates[k] + ";", 2, told.length() + 1);
                fault(told + " 00" + mates[k].trim() + ";", 2, told.length() + 1);
            }
            told.append(mates[many]);
            LongBoats x = Due.told(told + ";");
            DUE.due("I how many MEN", x.team(0, -2), many + 1);
            for (int k = 0; k <= many; k++) {
                DUE.due("I MAN " + k, x.team(0, k), Integer.parseInt(mates[k].trim()));
            }
            DUE.due("I no more", x.team(0, many + 1), -1);
        }
        fault(crew + ";", 1, crew.length());
        DUE.due("I one MAN in two TEAMS", Due.told(crew + " 1;team 0 1;").count(2), 2);
    }

    /** I: a 5th boat, 11th man, 5th team, at its word; as many as these are told. */
    private static void counted() {
        for (int many = 1; many <= 4; many++) {
            LongBoats x = Due.told(HEAD + BOAT.repeat(many));
            DUE.due("I BOATS", x.count(0), many);
            DUE.due("I the last BOAT", x.boat(many - 1, 0), 4);
            DUE.due("I no more BOATS", x.boat(many, 0), -2);
            LongBoats y = Due.told(HEAD + BOAT + MAN + "team 0 0;".repeat(many));
            DUE.due("I TEAMS", y.count(2), many);
            DUE.due("I the last TEAM", y.team(many - 1, -2), 1);
            DUE.due("I no more TEAMS", y.team(many, -2), -2);
        }
        for (int many = 1; many <= 10; many++) {
            LongBoats x = Due.told(HEAD + MAN.repeat(many));
            DUE.due("I MEN", x.count(1), many);
            DUE.due("I the last MAN", x.man(many - 1, 0), 80);
            DUE.due("I no more MEN", x.man(many, 0), -2);
        }
        String boats = HEAD + BOAT.repeat(4);
        String men = HEAD + MAN.repeat(10);
        String teams = HEAD + BOAT + MAN + "team 0 0;".repeat(4);
        fault(boats + BOAT, 3, boats.length());
        fault(boats + "  boat", 3, boats.length() + 2);
        fault(men + MAN, 3, men.length());
        fault(men + "\nman", 3, men.length() + 1);
        fault(teams + "team 0 0;", 3, teams.length());
        fault(teams + "team", 3, teams.length());
        fault(boats + "boats oars 2 slip 1;", 1, boats.length());
        fault(men + "men", 1, men.length());
        DUE.due("I the order of LINES is free", Due.tell(new LongBoats(),
                HEAD + "errs 1;" + MAN + "reach 0 to 0;" + BOAT + "team 0 0;" + MAN + BOAT + "team 1 1 0;"), 9);
    }

    /** I: TOKENS, each byte there is behind a word and behind a number. */
    private static void everyByte() {
        for (int b = 0; b < 256; b++) {
            boolean blank = b == 32 || b == 10;
            boolean letter = b >= 'a' && b <= 'z';
            boolean digit = b >= '0' && b <= '9';
            String word = HEAD + MAN.substring(0, MAN.length() - 1);
            String number = HEAD + "errs 5";
            if (blank) {
                DUE.due("I blank behind a word " + b, Due.tell(new LongBoats(), word + (char) b + ";"), 2);
                DUE.due("I blank behind a number " + b, Due.tell(new LongBoats(), number + (char) b + ";"), 2);
            } else if (b == ';') {
                fault(word + ";;", 1, word.length() + 1);
                fault(number + ";;", 1, number.length() + 1);
            } else {
                fault(word + (char) b + ";", 1, letter ? word.length() - 4 : word.length());
                if (b == '0') {
                    DUE.due("I fifty", Due.told(number + "0;").count(8), 50);
                } else {
                    fault(number + (char) b + ";", digit ? 2 : 1, digit ? number.length() - 1 : number.length());
                }
            }
        }
    }

    /** I: the longest TOKEN. */
    private static void longestTokens() {
        LongBoats x = new LongBoats();
        DUE.due("I no blanks", Due.tell(x, "harbour stream1gap3passes3;boat oars2slip0;errs50;reach0to0;"), 4);
        DUE.due("I a blank ahead of signs", Due.tell(x, "\n harbour stream 1 gap 3 passes 3 \n;\nerrs 5\n;\n"), 2);
        fault("harbourstream 1 gap 3 passes 3;", 1, 0);
        fault("harbour stream 1 gap 3 pass es 3;", 1, 23);
        fault("har bour stream 1 gap 3 passes 3;", 1, 0);
        fault(HEAD + "errs 5 0;", 1, HEAD.length() + 7);
        fault(HEAD + "errs 5\n0;", 1, HEAD.length() + 7);
        fault(HEAD + "errs5e;", 1, HEAD.length() + 5);
        fault(HEAD + "er rs 5;", 1, HEAD.length());
        fault(HEAD + "reach 0 to0 0;", 1, HEAD.length() + 12);
    }

    /** I: a word with one letter less, more or another is another word. */
    private static void lettersOfWords() {
        String[] lines = {"", "reach 1 to 5;", BOAT, MAN, MAN.replace("edge", "middle"), MAN.replace("edge", "corner"),
            "errs 7;", BOAT + MAN + "team 0 0;"};
        for (String line : lines) {
            String text = line.isEmpty() ? HEAD : HEAD + line;
            java.util.regex.Matcher m = java.util.regex.Pattern.compile("[a-z]+").matcher(text);
            while (m.find()) {
                if (m.start() < HEAD.length() && !line.isEmpty()) {
                    continue;
                }
                String ahead = text.substring(0, m.start());
                String word = m.group();
                String behind = text.substring(m.end());
                for (int i = 0; i < word.length(); i++) {
                    char letter = word.charAt(i) == 'x' ? 'y' : 'x';
                    fault(ahead + word.substring(0, i) + letter + word.substring(i + 1) + behind, 1, m.start());
                    fault(ahead + word.substring(0, i) + word.substring(i + 1) + behind, 1, m.start());
                }
                fault(ahead + word + "s" + behind, 1, m.start());
                fault(ahead + "a" + word + behind, 1, m.start());
                fault(ahead + word.substring(0, 1).toUpperCase() + word.substring(1) + behind, 1, m.start());
            }
        }
    }

    /** I: FAULTS, the first by its place, whichever is the least. */
    private static void firstByPlace() {
        String boats = HEAD + BOAT.repeat(4);
        fault(boats + "boat !", 3, boats.length());
        fault(boats + "! boat", 1, boats.length());
        fault(boats + "errs 51 boat !", 2, boats.length() + 5);
        fault(boats + "errs 5 51;", 1, boats.length() + 7);
        fault(boats + "errs ! 51;", 1, boats.length() + 5);
        fault(HEAD + "team 9 9 !", 2, HEAD.length() + 5);
        fault(HEAD + "reach 13 13;", 2, HEAD.length() + 6);
        fault(HEAD + "reach 12 13;", 1, HEAD.length() + 9);
        fault(HEAD + "boat oars 99 slip;", 2, HEAD.length() + 10);
        fault(HEAD + "boat slip 99;", 1, HEAD.length() + 5);
        fault(HEAD + HEAD, 1, HEAD.length());
        fault(HEAD + "harbour stream 99;", 1, HEAD.length());
        fault("errs 51;" + HEAD, 1, 0);
        fault("boat oars 2 slip 0;" + HEAD, 1, 0);
        fault("99 harbour", 1, 0);
        fault("harbour harbour", 1, 8);
        fault("harbour stream 10 harbour", 2, 15);
        fault("harbour stream gap 3 passes 3;", 1, 15);
        fault("harbour gap 3 stream 1 passes 3;", 1, 8);
    }

    /** I: of one place the least: a 6th MAN of a team, at his number, if he is one unlike those. */
    private static void leastOfOnePlace() {
        String crew = HEAD + BOAT + MAN.repeat(6) + "team 0 5 3 1 0 2";
        int sixth = crew.length() + 1;
        fault(crew + " 4;", 3, sixth);
        fault(crew + " 4", 3, sixth);
        fault(crew + " 004 6;", 3, sixth);
        for (int like = 0; like <= 5; like++) {
            if (like != 4) {
                fault(crew + " " + like + ";", 2, sixth);
            }
        }
        fault(crew + " 6;", 2, sixth);
        fault(crew + " 4294967300;", 2, sixth);
        fault(crew + " !;", 1, sixth);
        fault(crew + " team", 1, sixth);
        fault(crew, 1, crew.length());
        fault(crew + "  ", 1, crew.length() + 2);
        DUE.due("I five MEN", Due.told(crew + ";").team(0, -2), 5);
        // A 5th TEAM is one at its word, whoever is in it.
        String teams = HEAD + BOAT + MAN.repeat(6) + "team 0 0;".repeat(4);
        fault(teams + "team 9 0 1 2 3 4 5;", 3, teams.length());
    }

    /** I: the end's place, behind each TOKEN of a text, and behind blanks there. */
    private static void endsPlace() {
        String[] lines = {HEAD, BOAT, MAN, "reach 1 to 5;", "errs 7;", "team 0 0;"};
        StringBuilder ahead = new StringBuilder();
        int whole = 0;
        for (String line : lines) {
            String bare = line.substring(0, line.length() - 1);
            for (int at = 1; at <= bare.length(); at++) {
                if (at == bare.length() || bare.charAt(at) == ' ') {
                    String cut = ahead + bare.substring(0, at);
                    fault(cut, 1, cut.length());
                    fault(cut + " ", 1, cut.length() + 1);
                    fault(cut + " \n\n ", 1, cut.length() + 4);
                }
            }
            ahead.append(line);
            whole++;
            DUE.due("I whole LINES", Due.tell(new LongBoats(), ahead.toString()), whole);
        }
    }

    /** I: a later reach or errs strikes; 2 to 4, and 0, without. */
    private static void laterOnesStrike() {
        LongBoats x = Due.told(HEAD);
        DUE.due("I reach without", x.count(6) * 100 + x.count(7), 204);
        DUE.due("I errs without", x.count(8), 0);
        Due.tell(x, HEAD + "reach 0 to 12;reach 12 to 12;reach 5 to 5;errs 50;errs 3;");
        DUE.due("I reach, the later one", x.count(6) * 100 + x.count(7), 505);
        DUE.due("I errs, the later one", x.count(8), 3);
        Due.tell(x, HEAD + "reach 12 to 12;reach 0 to 0;errs 50;errs 0;");
        DUE.due("I reach of 0", x.count(6) * 100 + x.count(7), 0);
        DUE.due("I errs of 0", x.count(8), 0);
        DUE.due("I each is a LINE", x.count(9), 5);
        Due.tell(x, HEAD);
        DUE.due("I nothing of it is left", x.count(6) * 10000 + x.count(7) * 100 + x.count(8), 20400);
    }
}
