/** Promises 62 to 64 and the Terms' SLOTS: rows of 0 and of 60, what wraps around by WIDTH, pastes to the last place. */
public final class SlotBoundsTest {
    private static final Due DUE = new Due("SlotBoundsTest");
    /** MAN 0 fouls at a TOUCH, MAN 1 falls WIDE: the RESULT of 0 and 1 is 0 at a CRASH, 1 at a TOUCH, 2 WIDE. */
    private static final String TEXT = Harbours.still(3, 1, Harbours.man(40, 0, 0, 0, 2, "edge"),
            Harbours.man(40, 0, 0, 0, 4, "middle"));
    private static final int CRASH = 3;
    private static final int TOUCH = 28;
    private static final int WIDE = (1 << 21) - 32;

    public static void main(String[] args) {
        rowsBounded();
        rowsRefused();
        rowsInPlace();
        writesBounded();
        writesRefused();
        cutToWidth();
        pastesBounded();
        pastesOfNone();
        pastesRefused();
        pastesOfWidths();
        pastesOverThemselves();
        slotsWithoutHarbour();
        DUE.close();
    }

    private static LongBoats told() {
        return Due.told(TEXT);
    }

    /** How many numbers a SLOT's row has, by which places can be written. */
    private static void size(String of, LongBoats x, int slot, int n) {
        DUE.due(of + ", the last place of " + n, x.write(slot, n - 1, 1), n == 0 ? -7 : 0);
        DUE.due(of + ", the first place beyond " + n, x.write(slot, n, 1), -7);
        DUE.due(of + ", the place ahead", x.write(slot, -1, 1), -7);
    }

    /** Promise 62: a row of n numbers, at most 60, of each SLOT and WIDTH. */
    private static void rowsBounded() {
        for (int slot = 0; slot <= 3; slot++) {
            for (int width = 0; width <= 3; width++) {
                LongBoats x = told();
                for (int n = 0; n <= 60; n++) {
                    DUE.due("62 SLOT " + slot + ", WIDTH " + width + ", n " + n, x.row(slot, width, n), 0);
                    size("62", x, slot, n);
                }
                DUE.due("62 one row", x.count(11), 1);
            }
        }
    }

    /** Promise 62: -2: no such SLOT or WIDTH, or n is above 60; -3, and the SLOT stays: n is below 0. */
    private static void rowsRefused() {
        LongBoats x = told();
        Due.lay(x, 0, 0, 0, 1, 1);
        for (int n : new int[] {61, 62, Integer.MAX_VALUE}) {
            DUE.due("62 n " + n, x.row(0, 1, n), -2);
            DUE.due("62 n " + n + " of nothing", x.row(1, 1, n), -2);
        }
        for (int n : new int[] {-1, -2, Integer.MIN_VALUE}) {
            DUE.due("62 n " + n, x.row(0, 1, n), -3);
            DUE.due("62 n " + n + " of nothing", x.row(1, 1, n), -3);
            DUE.due("62 n " + n + ", SLOT 4", x.row(4, 1, n), -2);
            DUE.due("62 n " + n + ", SLOT -1", x.row(-1, 1, n), -2);
            DUE.due("62 n " + n + ", WIDTH 4", x.row(0, 4, n), -2);
            DUE.due("62 n " + n + ", WIDTH -1", x.row(0, -1, n), -2);
        }
        for (int wrong : new int[] {-1, 4, Integer.MIN_VALUE, Integer.MAX_VALUE}) {
            DUE.due("62 SLOT " + wrong, x.row(wrong, 0, 3), -2);
            DUE.due("62 WIDTH " + wrong, x.row(0, wrong, 3), -2);
        }
        DUE.due("62 the SLOT stays", x.gaps(0), TOUCH);
        size("62 the SLOT stays", x, 0, 3);
        DUE.due("62 nothing stays nothing", x.write(1, 0, 0), -6);
        DUE.due("62 one row", x.count(11), 1);
        // Its WIDTH stays, too: 257 is 1 there.
        x.write(0, 0, 0);
        x.write(0, 2, 257);
        DUE.due("62 the WIDTH stays", x.gaps(0), TOUCH);
    }

    /** Promise 62: all 0, in place of another one. */
    private static void rowsInPlace() {
        for (int width = 0; width <= 3; width++) {
            LongBoats x = told();
            long[] ones = new long[60];
            java.util.Arrays.fill(ones, 1);
            Due.lay(x, 2, 3 - width, ones);
            for (int n = 60; n >= 3; n -= 3) {
                x.row(2, width, n);
                DUE.due("62 all 0: one MAN twice", x.gaps(2), -2);
                for (int i = 1; i < n; i += 3) {
                    x.write(2, i, 1);
                }
                DUE.due("62 all 0 but these, n " + n, x.gaps(2), CRASH);
            }
        }
        // A shorter one and a longer one again: nothing of the first is left.
        LongBoats x = told();
        Due.lay(x, 0, 0, 0, 1, 1, 0, 1, 1);
        x.row(0, 0, 0);
        x.row(0, 0, 6);
        x.write(0, 1, 1);
        x.write(0, 4, 1);
        DUE.due("62 nothing is left", x.gaps(0), CRASH);
    }

    /** Promise 63: number i of the row, the first and the last. */
    private static void writesBounded() {
        for (int slot = 0; slot <= 3; slot++) {
            LongBoats x = told();
            long[] row = new long[60];
            for (int i = 0; i < 60; i++) {
                row[i] = i % 3 == 0 ? 0 : 1;
            }
            Due.lay(x, slot, 1, row);
            DUE.due("63 as laid", x.gaps(slot), TOUCH);
            DUE.due("63 the last", x.write(slot, 59, 2), 0);
            DUE.due("63 the last is so", x.odd(slot), 19);
            DUE.due("63 and no other", x.write(slot, 59, 1), 0);
            DUE.due("63 as it was", x.gaps(slot), TOUCH);
            DUE.due("63 the first", x.write(slot, 0, 1), 0);
            DUE.due("63 the first is so: one MAN twice", x.gaps(slot), -2);
            DUE.due("63 the first again", x.write(slot, 0, 0), 0);
            DUE.due("63 beyond", x.write(slot, 60, 9), -7);
            DUE.due("63 below", x.write(slot, -1, 9), -7);
            DUE.due("63 nothing happens", x.gaps(slot), TOUCH);
        }
    }

    /** Promise 63: -2: there is no such SLOT; -6: it has nothing; -7: there is no such number. */
    private static void writesRefused() {
        LongBoats x = told();
        for (int i : new int[] {-1, 0, 1, 60, Integer.MIN_VALUE, Integer.MAX_VALUE}) {
            for (int slot : new int[] {-1, 4, Integer.MIN_VALUE, Integer.MAX_VALUE}) {
                DUE.due("63 SLOT " + slot + ", i " + i, x.write(slot, i, 1), -2);
            }
            for (int slot = 0; slot <= 3; slot++) {
                DUE.due("63 nothing in " + slot + ", i " + i, x.write(slot, i, 1), -6);
            }
        }
        x.row(0, 0, 0);
        for (int i : new int[] {-1, 0, 1, 60, Integer.MIN_VALUE, Integer.MAX_VALUE}) {
            DUE.due("63 a row of none, i " + i, x.write(0, i, 1), -7);
        }
    }

    /** Promise 63: v, cut to its WIDTH: 1, 2, 4 or 8 bytes. */
    private static void cutToWidth() {
        int[] bits = {8, 16, 32};
        for (int width = 0; width <= 2; width++) {
            long round = 1L << bits[width];
            long[] so = {round, -round, 2 * round, 7 * round, Long.MIN_VALUE, 1L << 62, -1 - (round - 1), 0};
            for (long v : so) {
                LongBoats x = told();
                Due.lay(x, 1, width, 0, 1, 1);
                DUE.due("63 write", x.write(1, 2, v + 1), 0);
                DUE.due("63 WIDTH " + width + ", " + v + " and 1", x.gaps(1), TOUCH);
                x.write(1, 2, v + 2);
                DUE.due("63 WIDTH " + width + ", " + v + " and 2", x.gaps(1), WIDE);
                x.write(1, 2, v);
                DUE.due("63 WIDTH " + width + ", " + v, x.gaps(1), CRASH);
                x.write(1, 2, v - 1);
                DUE.due("63 WIDTH " + width + ", " + v + " less 1", x.gaps(1), -2);
                x.write(1, 2, v + 4);
                DUE.due("63 WIDTH " + width + ", " + v + " and 4", x.gaps(1), -2);
            }
        }
        for (int width = 0; width <= 3; width++) {
            for (int bit = 0; bit < 64; bit++) {
                LongBoats x = told();
                Due.lay(x, 1, width, 0, 1, 0);
                x.write(1, 2, (1L << bit) + 1);
                boolean cut = width < 3 && bit >= bits[Math.min(width, 2)];
                // Bits 0 and 1 make 2 and 3, which are RESULTS.
                int gaps = bit == 0 ? WIDE : bit == 1 ? 0 : cut ? TOUCH : -2;
                DUE.due("63 WIDTH " + width + ", bit " + bit, x.gaps(1), gaps);
            }
        }
    }

    /** Promise 64: so many numbers, from one on, to another one's, from one on: to the last place of both. */
    private static void pastesBounded() {
        for (int from = 0; from <= 6; from++) {
            for (int to = 0; to <= 9; to++) {
                for (int n = 0; n <= 7; n++) {
                    LongBoats x = told();
                    x.row(0, 1, 6);
                    x.row(3, 1, 9);
                    boolean fits = from + n <= 6 && to + n <= 9;
                    DUE.due("64 from " + from + " to " + to + ", " + n, x.paste(0, from, 3, to, n), fits ? 0 : -7);
                    boolean back = to + n <= 9 && from + n <= 6;
                    DUE.due("64 back, " + from + " to " + to + ", " + n, x.paste(3, to, 0, from, n), back ? 0 : -7);
                }
            }
        }
        LongBoats x = told();
        long[] row = new long[60];
        for (int i = 0; i < 60; i++) {
            row[i] = i % 3 == 0 ? 0 : 1;
        }
        Due.lay(x, 0, 2, row);
        x.row(1, 2, 60);
        DUE.due("64 all sixty", x.paste(0, 0, 1, 0, 60), 0);
        DUE.due("64 all are there", x.gaps(1), TOUCH);
        DUE.due("64 they stay", x.gaps(0), TOUCH);
        DUE.due("64 sixty-one", x.paste(0, 0, 1, 0, 61), -7);
        x.write(0, 59, 2);
        DUE.due("64 the last to the last", x.paste(0, 59, 1, 59, 1), 0);
        DUE.due("64 it is there, no other", x.odd(1), 19);
        DUE.due("64 one beyond", x.paste(0, 59, 1, 59, 2), -7);
        DUE.due("64 from beyond", x.paste(0, 60, 1, 59, 1), -7);
        DUE.due("64 to beyond", x.paste(0, 59, 1, 60, 1), -7);
    }

    /** Promise 64: no number at all, up to the end of both rows. */
    private static void pastesOfNone() {
        LongBoats x = told();
        Due.lay(x, 0, 0, 0, 1, 1);
        x.row(1, 0, 0);
        DUE.due("64 none of none", x.paste(1, 0, 1, 0, 0), 0);
        DUE.due("64 none to none", x.paste(0, 3, 1, 0, 0), 0);
        DUE.due("64 none from the end", x.paste(0, 3, 0, 3, 0), 0);
        DUE.due("64 one to none", x.paste(0, 0, 1, 0, 1), -7);
        DUE.due("64 one of none", x.paste(1, 0, 0, 0, 1), -7);
        DUE.due("64 none from below", x.paste(0, -1, 0, 0, 0), -7);
        DUE.due("64 none to below", x.paste(0, 0, 0, -1, 0), -7);
        DUE.due("64 nothing happens", x.gaps(0), TOUCH);
    }

    /** Promise 64: -2, -6, -8, -7, in that order; and nothing happens. */
    private static void pastesRefused() {
        LongBoats x = told();
        Due.lay(x, 0, 1, 0, 1, 1);
        Due.lay(x, 1, 1, 0, 1, 2);
        Due.lay(x, 2, 2, 0, 1, 2);
        int[] beyond = {-1, 4, Integer.MIN_VALUE, Integer.MAX_VALUE};
        for (int slot : beyond) {
            DUE.due("64 SLOT " + slot, x.paste(slot, 0, 0, 0, 1), -2);
            DUE.due("64 to SLOT " + slot, x.paste(0, 0, slot, 0, 1), -2);
            DUE.due("64 SLOT " + slot + ", the other has nothing", x.paste(slot, 0, 3, 0, 1), -2);
            DUE.due("64 to SLOT " + slot + ", the other has nothing", x.paste(3, 0, slot, 0, -1), -2);
        }
        DUE.due("64 of nothing", x.paste(3, 0, 0, 0, 1), -6);
        DUE.due("64 to nothing", x.paste(0, 0, 3, 0, 1), -6);
        DUE.due("64 nothing to itself", x.paste(3, 0, 3, 0, 0), -6);
        DUE.due("64 to nothing, n below 0", x.paste(0, 0, 3, 0, -1), -6);
        DUE.due("64 of nothing, beyond", x.paste(3, 99, 0, 0, 1), -6);
        DUE.due("64 unlike", x.paste(0, 0, 2, 0, 1), -8);
        DUE.due("64 unlike, none", x.paste(0, 0, 2, 0, 0), -8);
        DUE.due("64 unlike, n below 0", x.paste(0, 0, 2, 0, -1), -8);
        DUE.due("64 unlike, beyond", x.paste(2, 99, 0, 0, 1), -8);
        int[] far = {-1, Integer.MIN_VALUE, Integer.MAX_VALUE, Integer.MAX_VALUE - 1};
        for (int v : far) {
            DUE.due("64 i " + v, x.paste(0, v, 1, 0, 1), -7);
            DUE.due("64 k " + v, x.paste(0, 0, 1, v, 1), -7);
            DUE.due("64 n " + v, x.paste(0, 0, 1, 0, v), -7);
            DUE.due("64 i and n " + v, x.paste(0, v, 1, 0, v), -7);
            DUE.due("64 k and n " + v, x.paste(0, 0, 1, v, v), -7);
            DUE.due("64 i and k " + v, x.paste(0, v, 1, v, 1), -7);
            DUE.due("64 i 1, n " + v, x.paste(0, 1, 1, 1, v), -7);
        }
        // Part of them would fit: none is put.
        DUE.due("64 part of them beyond", x.paste(0, 0, 1, 1, 3), -7);
        DUE.due("64 nothing happens to it", x.gaps(0), TOUCH);
        DUE.due("64 nothing happens", x.gaps(1), WIDE);
        DUE.due("64 nothing happens to the other", x.gaps(2), WIDE);
    }

    /** Promise 64: -8: they are not of one WIDTH. */
    private static void pastesOfWidths() {
        for (int width = 0; width <= 3; width++) {
            for (int other = 0; other <= 3; other++) {
                LongBoats x = told();
                Due.lay(x, 0, width, 0, 1, 1);
                Due.lay(x, 1, other, 0, 1, 2);
                DUE.due("64 WIDTH " + width + " to " + other, x.paste(0, 0, 1, 0, 3), width == other ? 0 : -8);
                DUE.due("64 so that", x.gaps(1), width == other ? TOUCH : WIDE);
            }
        }
    }

    /** Promise 64: to its own, as they were: at each distance, up and down. */
    private static void pastesOverThemselves() {
        for (int from = 0; from <= 9; from++) {
            for (int to = 0; to <= 9; to++) {
                for (int n = 0; n <= 9 - Math.max(from, to); n++) {
                    long[] row = {0, 1, 2, 1, 0, 1, 0, 1, 0};
                    LongBoats x = told();
                    Due.lay(x, 0, 0, row);
                    long[] due = row.clone();
                    for (int i = 0; i < n; i++) {
                        due[to + i] = row[from + i];
                    }
                    DUE.due("64 itself " + from + " to " + to + ", " + n, x.paste(0, from, 0, to, n), 0);
                    same("64 itself " + from + " to " + to + ", " + n, x, due);
                }
            }
        }
    }

    /** Each number by itself, copied into a picture of a SLOT of its own where 0, 1 and 2 are told apart. */
    private static void same(String of, LongBoats x, long[] due) {
        int[] gaps = {CRASH, TOUCH, WIDE};
        Due.lay(x, 1, 0, 0, 1, 0);
        for (int i = 0; i < due.length; i++) {
            x.paste(0, i, 1, 2, 1);
            DUE.due(of + ", number " + i, x.gaps(1), gaps[(int) due[i]]);
        }
    }

    /** SLOTS are there without a HARBOUR, and stay when it changes. */
    private static void slotsWithoutHarbour() {
        LongBoats x = new LongBoats();
        DUE.due("62 without", x.row(0, 0, 3), 0);
        DUE.due("63 without", x.write(0, 1, 1), 0);
        DUE.due("63 without, one more", x.write(0, 2, 1), 0);
        DUE.due("62 without, another", x.row(1, 0, 3), 0);
        DUE.due("64 without", x.paste(0, 0, 1, 0, 3), 0);
        DUE.due("44 without", x.gaps(0), -2);
        Due.tell(x, TEXT);
        DUE.due("44 with", x.gaps(0), TOUCH);
        DUE.due("44 pasted", x.gaps(1), TOUCH);
        Due.tell(x, "");
        Due.tell(x, TEXT);
        DUE.due("44 with another", x.gaps(1), TOUCH);
    }
}
