/** Promises 33 to 37 of five against five: all orders, against the model. */
public final class OrdersTest {
    // Of the first two the last of all orders, 4 3 2 1 0, is the bold one, the best one.
    private static final int[] SEEDS = {961, 2070, 1109, 8791, 1, 2, 3, 4, 5, 6, 7, 8, 9, 10};

    public static void main(String[] args) {
        Due due = new Due("OrdersTest");
        for (int seed : SEEDS) {
            String of = " of seed " + seed;
            LongBoats x = new LongBoats();
            Model y = new Model();
            due.tellBoth("seed " + seed, x, y, Texts.fives(seed));
            for (int team = 0; team < 2; team++) {
                int other = 1 - team;
                due.due("wins" + of, x.wins(team, other), y.wins(team, other));
                due.due("sure" + of, x.sure(team, other), y.sure(team, other));
                due.due("pillar" + of, x.pillar(team, other), y.pillar(team, other));
                for (int i = -1; i < 6; i++) {
                    due.due("order " + i + of, x.order(team, other, i), y.order(team, other, i));
                    due.due("bold " + i + of, x.bold(team, other, i), y.bold(team, other, i));
                }
            }
        }
        LongBoats bold = Due.told(Texts.fives(961));
        LongBoats best = Due.told(Texts.fives(2070));
        for (int i = 0; i < 5; i++) {
            due.due("the last order is the bold one", bold.bold(0, 1, i), 4 - i);
            due.due("the last order is the best one", best.order(0, 1, i), 4 - i);
        }
        due.close();
    }
}
