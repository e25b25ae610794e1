import java.util.Arrays;
import java.util.Map;
import java.util.Random;
import java.util.TreeMap;
import java.util.TreeSet;

/** Every promise: the class answers as the model does, in runs of calls that are made up. */
public final class ModelTest {
    private static final int RUNS = 2500;

    public static void main(String[] args) throws Exception {
        Due due = new Due("ModelTest");
        Map<String, TreeSet<Long>> answers = new TreeMap<>();
        for (int run = 0; run < RUNS && due.wrong() < 20; run++) {
            Random r = new Random(run);
            LongBoats x = new LongBoats();
            Model y = new Model();
            int calls = 0;
            while (calls < 480) {
                String text = r.nextInt(3) == 0 ? Texts.spoilt(r) : Texts.some(r);
                calls += due.tellBoth("run " + run, x, y, text);
                if (r.nextInt(3) == 0) {
                    pictures(r, x, y);
                    calls += 12;
                }
                int some = r.nextInt(180);
                for (int i = 0; i < some && calls < 512; i++, calls++) {
                    int[] told = {x.count(0), x.count(1), x.count(2)};
                    Calls c = Calls.some(r, told);
                    // harbour() with what is on the TAPE would mostly end the HARBOUR.
                    if (c.ofClass.getName().equals("harbour") && r.nextInt(10) != 0) {
                        continue;
                    }
                    long got = c.askClass(x);
                    due.due("run " + run + " " + c.text(), got, c.askModel(y));
                    answers.computeIfAbsent(c.ofClass.getName(), k -> new TreeSet<>()).add(got);
                }
            }
        }
        sameFaults(due);
        due.dueText("methods asked", String.valueOf(answers.size()), String.valueOf(Calls.faceSize()));
        for (Map.Entry<String, TreeSet<Long>> e : answers.entrySet()) {
            if (args.length > 0) {
                System.out.println(e.getKey() + " " + e.getValue().size() + " "
                        + e.getValue().stream().limit(30).toList());
            }
        }
        due.close();
    }

    private static void sameFaults(Due due) {
        int[] seen = new int[4];
        for (int i = 0; i < 20000 && due.wrong() < 20; i++) {
            Random r = new Random(1000000 + i);
            LongBoats x = new LongBoats();
            Model y = new Model();
            String text = Texts.spoilt(r);
            due.tellBoth("text " + i, x, y, text);
            seen[x.fault(0)]++;
            due.due("text " + i + " fault(0) of " + text, x.fault(0), y.fault(0));
            due.due("text " + i + " fault(1) of " + text, x.fault(1), y.fault(1));
        }
        System.out.println("ModelTest: texts by fault " + Arrays.toString(seen));
    }

    /** A row of pictures, mostly such as a gap makes. */
    private static void pictures(Random r, LongBoats x, Model y) {
        int men = x.count(1);
        if (men < 2) {
            return;
        }
        int slot = r.nextInt(4);
        int width = r.nextInt(4);
        int n = 1 + r.nextInt(3);
        x.row(slot, width, 3 * n);
        y.row(slot, width, 3 * n);
        int gap = r.nextInt(6);
        for (int i = 0; i < n; i++) {
            int man = r.nextInt(men);
            int foe = (man + 1 + r.nextInt(men - 1)) % men;
            int result = r.nextInt(8) == 0 ? r.nextInt(4) : Math.max(0, x.pass(man, foe, 0, 1, 0, gap));
            int[] v = {man, foe, result};
            for (int k = 0; k < 3; k++) {
                x.write(slot, 3 * i + k, v[k]);
                y.write(slot, 3 * i + k, v[k]);
            }
        }
    }
}
