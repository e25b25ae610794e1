/** Promises 24 to 29: CHOICES 0 .. 9, the first of several, games with no REST and with nothing else. */
public final class GameBoundsTest {
    private static final Due DUE = new Due("GameBoundsTest");

    public static void main(String[] args) {
        choicesBounded();
        ownChoiceIsNone();
        allAlike();
        mostAndLeast();
        lastChoiceBest();
        wideOnes();
        noRest();
        plainly();
        refusals();
        DUE.close();
    }

    private static LongBoats two(int skill, int quick, int otherSkill, int otherQuick) {
        return Due.told(Harbours.still(3, 1, Harbours.man(100, skill, quick, 0, 2, "middle"),
                Harbours.man(100, otherSkill, otherQuick, 0, 2, "middle")));
    }

    /** GAME at a TOUCH, SPEED 0, no slips, reckoned from the Terms' II; both STAND 10 and their skill. */
    private static int[][] grid(int skill, int quick, int otherSkill, int otherQuick) {
        int[][] grid = new int[10][10];
        for (int i = 0; i < 10; i++) {
            for (int j = 0; j < 10; j++) {
                int force = quick + i / 2 + (i % 2 == 0 ? 4 : 2);
                int otherForce = otherQuick + j / 2 + (j % 2 == 0 ? 4 : 2);
                int stands = Math.max(0, 10 + skill - 2 * Math.abs(i / 2 - 2) - (j % 2 == 1 ? 3 : 0));
                int otherStands = Math.max(0, 10 + otherSkill - 2 * Math.abs(j / 2 - 2) - (i % 2 == 1 ? 3 : 0));
                grid[i][j] = (force > otherStands ? 1 : 0) - (otherForce > stands ? 1 : 0);
            }
        }
        return grid;
    }

    /** Promise 24: CHOICES of both, 0 .. 9. */
    private static void choicesBounded() {
        LongBoats x = two(4, 10, 5, 10);
        int[][] grid = grid(4, 10, 5, 10);
        for (int i = 0; i < 10; i++) {
            for (int j = 0; j < 10; j++) {
                DUE.due("24 game " + i + " " + j, x.game(0, 1, 0, 1, i, j), grid[i][j]);
            }
            DUE.due("24 choice " + i + ", reply 10", x.game(0, 1, 0, 1, i, 10), -1000);
            DUE.due("24 choice " + i + ", reply -1", x.game(0, 1, 0, 1, i, -1), -1000);
            DUE.due("24 choice 10, reply " + i, x.game(0, 1, 0, 1, 10, i), -1000);
            DUE.due("24 choice -1, reply " + i, x.game(0, 1, 0, 1, -1, i), -1000);
        }
        DUE.due("25 choice -1", x.reply(0, 1, 0, 1, -1), -2);
        DUE.due("25 choice 10", x.reply(0, 1, 0, 1, 10), -2);
    }

    /** III: what both choose, whatever they lean and aim as told. */
    private static void ownChoiceIsNone() {
        int[][] grid = grid(4, 10, 5, 10);
        for (int aims = 0; aims <= 2; aims++) {
            LongBoats x = two(4, 10, 5, 10);
            x.train(0, 5, aims);
            x.train(1, 5, 2 - aims);
            x.train(0, 4, 4);
            x.train(1, 4, 0);
            for (int i = 0; i < 10; i++) {
                DUE.due("24 aiming " + aims + ", " + i + " " + (9 - i), x.game(0, 1, 0, 1, i, 9 - i), grid[i][9 - i]);
            }
            DUE.due("24 he leans as he did", x.man(0, 4) * 10 + x.man(1, 4), 40);
            DUE.due("24 he aims as he did", x.man(0, 5) * 10 + x.man(1, 5), aims * 10 + 2 - aims);
        }
    }

    /** At a CRASH all is 0: each pair is a REST, nothing is vain, the first of all is told. */
    private static void allAlike() {
        LongBoats x = two(4, 10, 5, 10);
        x.rule(0, 1);
        DUE.due("27 all pairs", x.rests(0, 1, 0, 1), 100);
        DUE.due("28 the first", x.rest(0, 1, 0, 1, 0), 0);
        DUE.due("28 the second", x.rest(0, 1, 0, 1, 1), 0);
        DUE.due("29 none", x.vain(0, 1, 0, 1), 0);
        for (int what = 0; what <= 3; what++) {
            DUE.due("26 what " + what, x.safe(0, 1, 0, 1, what), 0);
        }
        for (int choice = 0; choice <= 9; choice++) {
            DUE.due("25 the first reply", x.reply(0, 1, 0, 1, choice), 0);
        }
    }

    /** III: in slips: all 81 pairs. At gap 12 of reach 0 to 12 who leans 4 is out in each, or the other one is. */
    private static void mostAndLeast() {
        LongBoats x = Due.told(Harbours.head(4, 12, 1) + Harbours.boat(2, 4) + Harbours.boat(2, 4)
                + Harbours.man(200, 30, 30, 0, 2, "middle") + Harbours.man(40, 0, 0, 0, 2, "middle")
                + "reach 0 to 12;");
        DUE.due("24 the most", x.game(0, 1, 0, 1, 4, 8), 81);
        DUE.due("24 the least", x.game(1, 0, 0, 1, 8, 4), -81);
        // Else the other one is out at 45 TOUCHES alone; leaning 4, MAN 0 falls at 36 WIDE ones.
        DUE.due("24 at TOUCHES alone", x.game(0, 1, 0, 1, 4, 4), 45);
        DUE.due("24 but falling", x.game(0, 1, 0, 1, 8, 4), 9);
        DUE.due("24 both falling", x.game(0, 1, 0, 1, 8, 8), 45);
        DUE.due("25 of leaning", x.reply(0, 1, 0, 1, 8), 0);
        DUE.due("26 the choice", x.safe(0, 1, 0, 1, 0), 0);
        DUE.due("26 its least", x.safe(0, 1, 0, 1, 1), 45);
        DUE.due("26 the other one's", x.safe(0, 1, 0, 1, 2), 0);
        DUE.due("26 its most", x.safe(0, 1, 0, 1, 3), 45);
        DUE.due("27 eight by eight", x.rests(0, 1, 0, 1), 64);
        DUE.due("29 who leans 4", x.vain(0, 1, 0, 1), 768);
        DUE.due("26 from the other side", x.safe(1, 0, 0, 1, 1), -45);
        DUE.due("26 its most from the other side", x.safe(1, 0, 0, 1, 3), -45);
    }

    /**
     * MAN 0 is never out; MAN 1 STANDS 18, 16 or 14 by how he leans; MAN 0's FORCE is 10 and 4 .. 8 by the middle,
     * 2 .. 6 by the corner (where the other one STANDS 3 less): CHOICE 9 alone has him out however he leans.
     */
    private static void lastChoiceBest() {
        LongBoats x = two(30, 10, 8, 0);
        DUE.due("25 reply to 9, the first of all", x.reply(0, 1, 0, 1, 9), 0);
        DUE.due("25 reply to 8, who does not lean off", x.reply(0, 1, 0, 1, 8), 4);
        DUE.due("25 reply to 4, leaning 1 does", x.reply(0, 1, 0, 1, 4), 2);
        DUE.due("25 reply to 0, anything", x.reply(0, 1, 0, 1, 0), 0);
        DUE.due("26 the choice", x.safe(0, 1, 0, 1, 0), 9);
        DUE.due("26 its least", x.safe(0, 1, 0, 1, 1), 1);
        DUE.due("26 the reply, the first of several", x.safe(0, 1, 0, 1, 2), 0);
        DUE.due("26 its most", x.safe(0, 1, 0, 1, 3), 1);
        DUE.due("27 with each reply", x.rests(0, 1, 0, 1), 10);
        DUE.due("28 the first one's", x.rest(0, 1, 0, 1, 0), 9);
        DUE.due("28 the second one's", x.rest(0, 1, 0, 1, 1), 0);
        DUE.due("29 all but the last, the bit of CHOICE 0 too", x.vain(0, 1, 0, 1), 511);
        // CHOICE 1 is the first of several that have him out who STANDS 14.
        LongBoats second = two(30, 10, 4, 0);
        DUE.due("29 asked first of all: 0 alone", second.vain(0, 1, 0, 1), 1);
        DUE.due("26 the second choice", second.safe(0, 1, 0, 1, 0), 1);
        DUE.due("26 its least", second.safe(0, 1, 0, 1, 1), 1);
        // From the other side CHOICES of MAN 1 are as good or worse against CHOICE 1 .. 8; 4 and 5 are not.
        DUE.due("28 from the other side", x.rest(1, 0, 0, 1, 0) * 10 + x.rest(1, 0, 0, 1, 1), 9);
        DUE.due("29 from the other side", x.vain(1, 0, 0, 1), 1023 - 48);
        // One more, and none has him out who does not lean off: the REST is with 4 and 5.
        LongBoats y = two(30, 10, 9, 0);
        DUE.due("27 the reply must be 4 or 5", y.rests(0, 1, 0, 1), 20);
        DUE.due("28 the second one's", y.rest(0, 1, 0, 1, 0) * 10 + y.rest(0, 1, 0, 1, 1), 4);
        DUE.due("26 the reply", y.safe(0, 1, 0, 1, 2), 4);
        DUE.due("26 by which the most is nothing", y.safe(0, 1, 0, 1, 3), 0);
    }

    /** WIDE: who leans 4 alone is out: CHOICES 8 and 9. */
    private static void wideOnes() {
        LongBoats x = two(4, 10, 5, 10);
        x.rule(0, 5);
        for (int i = 0; i < 10; i++) {
            for (int j = 0; j < 10; j++) {
                DUE.due("24 wide " + i + " " + j, x.game(0, 1, 0, 1, i, j), (j > 7 ? 1 : 0) - (i > 7 ? 1 : 0));
            }
            DUE.due("25 wide " + i, x.reply(0, 1, 0, 1, i), 0);
        }
        DUE.due("29 wide", x.vain(0, 1, 0, 1), 768);
        DUE.due("27 wide", x.rests(0, 1, 0, 1), 64);
        DUE.due("28 wide", x.rest(0, 1, 0, 1, 0) * 10 + x.rest(0, 1, 0, 1, 1), 0);
    }

    /** Promise 28: NONE: there is none. */
    private static void noRest() {
        LongBoats x = two(0, 0, 0, 3);
        DUE.due("27 none", x.rests(0, 1, 0, 1), 0);
        DUE.due("28 none, what 0", x.rest(0, 1, 0, 1, 0), -1);
        DUE.due("28 none, what 1", x.rest(0, 1, 0, 1, 1), -1);
        DUE.due("28 none, no such what", x.rest(0, 1, 0, 1, 2), -2);
        DUE.due("28 none, one twice", x.rest(0, 0, 0, 1, 0), -2);
        // Without a REST what is safe for both is not the same.
        DUE.due("26 the first one's least", x.safe(0, 1, 0, 1, 1), -1);
        DUE.due("26 the second one's most", x.safe(0, 1, 0, 1, 3), 0);
    }

    /** All of it of many games, gone through plainly. */
    private static void plainly() {
        int[][] games = {{0, 0, 0, 3}, {0, 3, 0, 0}, {4, 10, 5, 10}, {5, 12, 5, 9}, {0, 0, 2, 2}, {1, 8, 3, 2},
            {30, 10, 8, 0}, {8, 0, 30, 10}, {9, 9, 9, 9}, {2, 6, 4, 5}, {7, 7, 3, 10}, {0, 2, 4, 2}};
        for (int[] g : games) {
            plainly(two(g[0], g[1], g[2], g[3]), grid(g[0], g[1], g[2], g[3]));
        }
    }

    private static int least(int[][] grid, int i) {
        return java.util.Arrays.stream(grid[i]).min().getAsInt();
    }

    private static int most(int[][] grid, int j) {
        return java.util.Arrays.stream(grid).mapToInt(row -> row[j]).max().getAsInt();
    }

    private static void plainly(LongBoats x, int[][] grid) {
        int rests = 0;
        int first = -1;
        int safest = 0;
        int safestReply = 0;
        int vain = 0;
        for (int i = 0; i < 10; i++) {
            safest = least(grid, i) > least(grid, safest) ? i : safest;
            safestReply = most(grid, i) < most(grid, safestReply) ? i : safestReply;
            int reply = 0;
            while (grid[i][reply] != least(grid, i)) {
                reply++;
            }
            DUE.due("25 reply to " + i, x.reply(0, 1, 0, 1, i), reply);
            for (int j = 0; j < 10; j++) {
                if (grid[i][j] == least(grid, i) && grid[i][j] == most(grid, j)) {
                    rests++;
                    first = first < 0 ? 10 * i + j : first;
                }
                vain |= isBeaten(grid[i], grid[j]) ? 1 << i : 0;
            }
        }
        DUE.due("26 what 0", x.safe(0, 1, 0, 1, 0), safest);
        DUE.due("26 what 1", x.safe(0, 1, 0, 1, 1), least(grid, safest));
        DUE.due("26 what 2", x.safe(0, 1, 0, 1, 2), safestReply);
        DUE.due("26 what 3", x.safe(0, 1, 0, 1, 3), most(grid, safestReply));
        DUE.due("27 rests", x.rests(0, 1, 0, 1), rests);
        DUE.due("28 what 0", x.rest(0, 1, 0, 1, 0), first < 0 ? -1 : first / 10);
        DUE.due("28 what 1", x.rest(0, 1, 0, 1, 1), first < 0 ? -1 : first % 10);
        DUE.due("29 vain", x.vain(0, 1, 0, 1), vain);
    }

    private static boolean isBeaten(int[] row, int[] other) {
        boolean worse = false;
        for (int j = 0; j < 10; j++) {
            if (row[j] > other[j]) {
                return false;
            }
            worse |= row[j] < other[j];
        }
        return worse;
    }

    /** -1,000, for a GAIN may be -1 or -2. */
    private static void refusals() {
        LongBoats x = two(4, 10, 5, 10);
        DUE.due("26 what -1", x.safe(0, 1, 0, 1, -1), -1000);
        DUE.due("26 what 4", x.safe(0, 1, 0, 1, 4), -1000);
        DUE.due("26 one twice", x.safe(1, 1, 0, 1, 0), -1000);
        DUE.due("26 MAN 2", x.safe(0, 2, 0, 1, 0), -1000);
        DUE.due("26 BOAT 2", x.safe(0, 1, 2, 1, 0), -1000);
        DUE.due("24 one twice", x.game(1, 1, 0, 1, 0, 0), -1000);
        DUE.due("24 MAN -1", x.game(-1, 1, 0, 1, 0, 0), -1000);
        DUE.due("24 BOAT -1", x.game(0, 1, 0, -1, 0, 0), -1000);
        DUE.due("25 one twice", x.reply(1, 1, 0, 1, 0), -2);
        DUE.due("27 one twice", x.rests(1, 1, 0, 1), -2);
        DUE.due("29 one twice", x.vain(1, 1, 0, 1), -2);
        DUE.due("29 BOAT 2", x.vain(0, 1, 0, 2), -2);
    }
}
