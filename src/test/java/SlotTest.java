/** Promises 62 to 64: rows of numbers, seen through the pictures that they make. */
public final class SlotTest {
    private static final Due DUE = new Due("SlotTest");

    public static void main(String[] args) {
        rows();
        writes();
        pastes();
        DUE.close();
    }

    private static void rows() {
        LongBoats x = Due.told(Harbours.THREE);
        DUE.due("row", x.row(0, 0, 60), 0);
        DUE.due("row of none", x.row(3, 3, 0), 0);
        DUE.due("rows", x.count(11), 2);
        DUE.due("row 61", x.row(0, 0, 61), -2);
        DUE.due("row slot 4", x.row(4, 0, 1), -2);
        DUE.due("row slot -1", x.row(-1, 0, 1), -2);
        DUE.due("row width 4", x.row(0, 4, 1), -2);
        DUE.due("row width -1", x.row(0, -1, 1), -2);
        DUE.due("row slot 4, n -1", x.row(4, 0, -1), -2);
        DUE.due("row n -1", x.row(0, 0, -1), -3);
        DUE.due("row n least", x.row(0, 1, Integer.MIN_VALUE), -3);
        DUE.due("the row stays", x.write(0, 59, 1), 0);
        DUE.due("row of one, in place", x.row(0, 1, 1), 0);
        DUE.due("shorter", x.write(0, 1, 1), -7);
        x.row(0, 0, 3);
        x.write(0, 1, 1);
        x.write(0, 2, 3);
        DUE.due("pictures", x.gaps(0), 28);
        x.row(0, 0, 3);
        DUE.due("all 0: one MAN twice", x.gaps(0), -2);
        x.write(0, 1, 1);
        DUE.due("all 0 but one", x.gaps(0), 3);
    }

    private static void writes() {
        LongBoats x = Due.told(Harbours.THREE);
        DUE.due("write slot 4", x.write(4, 0, 0), -2);
        DUE.due("write slot -1", x.write(-1, 0, 0), -2);
        DUE.due("write nothing", x.write(0, 0, 0), -6);
        DUE.due("write nothing -1", x.write(0, -1, 0), -6);
        x.row(0, 0, 3);
        DUE.due("write 3", x.write(0, 3, 0), -7);
        DUE.due("write -1", x.write(0, -1, 0), -7);
        DUE.due("write", x.write(0, 2, Long.MIN_VALUE + 256 + 3), 0);
        x.write(0, 1, 1);
        DUE.due("cut", x.gaps(0), 28);
        int[] bits = {8, 16, 32, 63};
        for (int width = 0; width < 4; width++) {
            x.row(1, width, 3);
            x.write(1, 1, 1);
            x.write(1, 2, (1L << bits[width]) + 3);
            DUE.due("cut to width " + width, x.gaps(1), width == 3 ? -2 : 28);
            x.write(1, 2, (1L << bits[width] - 1) + 3);
            DUE.due("not cut to width " + width, x.gaps(1), -2);
        }
    }

    private static void pastes() {
        LongBoats x = Due.told(Harbours.THREE);
        Due.lay(x, 0, 1, 0, 1, 3);
        DUE.due("paste slot 4", x.paste(4, 0, 0, 0, 1), -2);
        DUE.due("paste to -1", x.paste(0, 0, -1, 0, 1), -2);
        DUE.due("paste to nothing", x.paste(0, 0, 1, 0, 1), -6);
        DUE.due("paste of nothing", x.paste(1, 9, 0, 0, 1), -6);
        x.row(1, 2, 3);
        DUE.due("paste unlike", x.paste(0, 9, 1, 0, 1), -8);
        x.row(1, 1, 3);
        DUE.due("paste beyond", x.paste(0, 0, 1, 0, 4), -7);
        DUE.due("paste beyond its row", x.paste(0, 1, 1, 0, 3), -7);
        DUE.due("paste beyond the other", x.paste(0, 0, 1, 1, 3), -7);
        DUE.due("paste far", x.paste(0, Integer.MAX_VALUE, 1, Integer.MAX_VALUE, Integer.MAX_VALUE), -7);
        DUE.due("paste below", x.paste(0, -1, 1, 0, 1), -7);
        DUE.due("paste to below", x.paste(0, 0, 1, -1, 1), -7);
        DUE.due("paste n below", x.paste(0, 0, 1, 0, -1), -7);
        DUE.due("paste n least", x.paste(0, 0, 1, 0, Integer.MIN_VALUE), -7);
        DUE.due("nothing happened", x.gaps(1), -2);
        DUE.due("paste none", x.paste(0, 3, 1, 3, 0), 0);
        DUE.due("paste all", x.paste(0, 0, 1, 0, 3), 0);
        DUE.due("pasted", x.gaps(1), 28);
        DUE.due("its own stays", x.gaps(0), 28);
        // Over itself, upwards and downwards: what is put is what was there.
        Due.lay(x, 2, 0, 1, 0, 2, 0, 0, 0);
        DUE.due("paste upwards", x.paste(2, 0, 2, 2, 3), 0);
        // 1 0 1 | 0 2 0: WIDE the one who leans 4 falls, of the others nobody does.
        DUE.due("read ahead", x.gaps(2), (1 << 21) - 32);
        Due.lay(x, 2, 0, 2, 2, 1, 0, 1, 0, 1, 3, 0);
        DUE.due("paste downwards", x.paste(2, 2, 2, 0, 3), 0);
        // 1 0 1 | 0 1 0 | 1 3 0
        DUE.due("a MAN that is none", x.gaps(2), -2);
        DUE.due("paste downwards on", x.paste(2, 0, 2, 6, 3), 0);
        // 1 0 1 | 0 1 0 | 1 0 1: WIDE, a CRASH, WIDE
        DUE.due("no gap", x.gaps(2), 0);
        DUE.due("paste one over another", x.paste(2, 0, 2, 3, 3), 0);
        DUE.due("WIDE", x.gaps(2), (1 << 21) - 32);
    }
}
