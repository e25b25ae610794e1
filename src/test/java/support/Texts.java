import java.util.Random;

/** Texts of harbours made up from a number. */
final class Texts {
    private static final String[] AIMS = {"middle", "corner", "edge"};

    private Texts() {
    }

    static String some(Random r) {
        StringBuilder s = new StringBuilder();
        s.append("harbour stream " + r.nextInt(10) + " gap " + (r.nextInt(4) == 0 ? r.nextInt(13) : 2 + r.nextInt(3))
                + " passes " + (1 + r.nextInt(7)) + ";");
        int boats = r.nextInt(8) == 0 ? r.nextInt(2) : 2 + r.nextInt(3);
        int men = r.nextInt(8) == 0 ? r.nextInt(3) : 2 + r.nextInt(9);
        int edges = 3 + r.nextInt(8);
        for (int i = 0; i < boats; i++) {
            s.append("boat oars " + (2 + r.nextInt(11)) + " slip " + r.nextInt(5) + ";");
        }
        for (int i = 0; i < men; i++) {
            s.append("man weight " + (40 + r.nextInt(161)) + " skill " + r.nextInt(31) + " quick " + r.nextInt(31)
                    + " tires " + r.nextInt(10) + " leans " + r.nextInt(5)
                    + " aims " + AIMS[r.nextInt(edges) == 0 ? 2 : r.nextInt(2)] + ";");
        }
        if (r.nextInt(3) == 0) {
            int from = r.nextInt(13);
            s.append("reach " + from + " to " + (from + r.nextInt(13 - from)) + ";");
        }
        if (r.nextBoolean()) {
            s.append("errs " + r.nextInt(51) + ";");
        }
        if (boats > 0 && men > 0) {
            teams(r, s, boats, men);
        }
        return s.toString();
    }

    /** Five against five. */
    static String fives(int seed) {
        Random r = new Random(seed);
        StringBuilder s = new StringBuilder("harbour stream 0 gap 3 passes 3;boat oars 2 slip 0;boat oars 2 slip 0;");
        for (int i = 0; i < 10; i++) {
            s.append("man weight " + (40 + r.nextInt(161)) + " skill " + r.nextInt(31) + " quick " + r.nextInt(31)
                    + " tires " + r.nextInt(10) + " leans " + r.nextInt(5)
                    + " aims " + (r.nextBoolean() ? "middle" : "corner") + ";");
        }
        return s + "team 0 0 1 2 3 4;team 1 5 6 7 8 9;";
    }

    private static void teams(Random r, StringBuilder s, int boats, int men) {
        int[] all = new int[men];
        for (int i = 0; i < men; i++) {
            int k = r.nextInt(i + 1);
            all[i] = all[k];
            all[k] = i;
        }
        int teams = r.nextInt(5);
        int next = 0;
        for (int i = 0; i < teams; i++) {
            // Mostly MEN who are in no TEAM yet, so that there are TEAMS that can meet.
            int left = men - next;
            int size = 1 + r.nextInt(Math.min(5, men));
            boolean fresh = left > 0 && r.nextInt(6) != 0;
            if (fresh) {
                size = Math.min(left, i == 0 ? Math.max(1, Math.min(5, men / 2)) : 1 + r.nextInt(5));
            }
            s.append("team " + r.nextInt(boats));
            int start = fresh ? next : r.nextInt(men);
            for (int k = 0; k < size; k++) {
                s.append(" " + all[(start + k) % men]);
            }
            s.append(";");
            next += fresh ? size : 0;
        }
    }

    /** A text with one or two places changed: mostly one with a FAULT. */
    static String spoilt(Random r) {
        StringBuilder s = new StringBuilder(some(r));
        String signs = " \n;;0123456789abmohrteikAZ-,\t\u00e9";
        String[] words = {"boat", "harbour", "man", "team 0 0", "errs", "reach 3 to 2;", "boat oars 2 slip 0;",
            "team 0 1;", "errs 50;", "99999999999999", "4294967296", "007", "to", ";", "edge", "team 0 0 1 2 3 4 5;"};
        int changes = 1 + r.nextInt(2);
        for (int i = 0; i < changes; i++) {
            int at = r.nextInt(s.length() + 1);
            int how = r.nextInt(5);
            if (how == 0 && at < s.length()) {
                s.setCharAt(at, signs.charAt(r.nextInt(signs.length())));
            } else if (how == 1 && at < s.length()) {
                s.deleteCharAt(at);
            } else if (how == 2) {
                s.insert(at, signs.charAt(r.nextInt(signs.length())));
            } else if (how == 3) {
                int semi = s.indexOf(";", at);
                s.insert(semi < 0 ? s.length() : semi + r.nextInt(2), words[r.nextInt(words.length)]);
            } else {
                s.setLength(at);
            }
            if (s.length() == 0) {
                s.append(' ');
            }
        }
        return s.length() > 1200 ? s.substring(0, 1200) : s.toString();
    }
}
