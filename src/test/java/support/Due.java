/** Counts the answers that are not as due, and tells them. */
final class Due {
    private final String test;
    private int asked = 0;
    private int wrong = 0;

    Due(String test) {
        this.test = test;
    }

    void due(String call, long got, long want) {
        asked++;
        if (got != want) {
            wrong++;
            System.out.println(test + ": " + call + " answered " + got + ", due is " + want);
        }
    }

    void dueText(String what, String got, String want) {
        asked++;
        if (!got.equals(want)) {
            wrong++;
            System.out.println(test + ": " + what + " is " + got + ", due is " + want);
        }
    }

    int wrong() {
        return wrong;
    }

    void close() {
        System.out.println(test + ": " + asked + " answers, " + wrong + " not as due");
        if (wrong != 0) {
            System.exit(1);
        }
    }

    /** Puts a text on the TAPE, whatever was there being cut away first. */
    static void tape(LongBoats x, String text) {
        x.end(0);
        int[] w = new int[5];
        for (int at = 0; at < text.length(); at += 20) {
            for (int i = 0; i < 5; i++) {
                w[i] = 0;
                for (int k = 0; k < 4; k++) {
                    int p = at + 4 * i + k;
                    w[i] = w[i] << 8 | (p < text.length() ? text.charAt(p) & 255 : 0);
                }
            }
            x.feed(w[0], w[1], w[2], w[3], w[4]);
        }
        x.end(text.length());
    }

    static int tell(LongBoats x, String text) {
        tape(x, text);
        return x.harbour();
    }

    static LongBoats told(String text) {
        LongBoats x = new LongBoats();
        if (tell(x, text) < 0) {
            throw new IllegalStateException("a text with a fault: " + text);
        }
        return x;
    }

    /** A SLOT has a row of these numbers. */
    static void lay(LongBoats x, int slot, int width, long... numbers) {
        x.row(slot, width, numbers.length);
        for (int i = 0; i < numbers.length; i++) {
            x.write(slot, i, numbers[i]);
        }
    }

    /** Tells a text to both: how many calls that took. */
    int tellBoth(String run, LongBoats x, Model y, String text) {
        x.end(0);
        y.end(0);
        int calls = 3;
        for (int at = 0; at < text.length(); at += 20, calls++) {
            int[] w = new int[5];
            for (int p = at; p < at + 20; p++) {
                w[(p - at) / 4] = w[(p - at) / 4] << 8 | (p < text.length() ? text.charAt(p) & 255 : 32);
            }
            due(run + " feed", x.feed(w[0], w[1], w[2], w[3], w[4]), y.feed(w[0], w[1], w[2], w[3], w[4]));
        }
        due(run + " end", x.end(text.length()), y.end(text.length()));
        due(run + " harbour() of " + text, x.harbour(), y.harbour());
        return calls;
    }
}
