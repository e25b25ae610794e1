import java.lang.reflect.Method;
import java.util.ArrayList;
import java.util.Arrays;
import java.util.Comparator;
import java.util.List;
import java.util.Random;

/** Calls made up from a number: a method of the face and arguments that mostly fit it. */
final class Calls {
    // A letter an argument: m man, b boat, t team, p passes, g gap, G gap steered for, w what,
    // i place, k kind, r result, c choice, s seed, S slot, n small number, N a rule's number,
    // W a trait's number, f above, F below, B beats, v any number.
    private static final String[] FACE = {
        "fault w", "man mw", "boat bw", "team ti", "speed bb", "force mbbp", "stands mmbbp", "pass mmbbpg",
        "why mmbbpg", "bout mmbbw", "comes bbGkw", "steer bbfF", "odds mmbbrw", "ends mmbbrw", "lasts mmbbw",
        "best mmbb", "oars mmbb", "heavy mmbb", "even mmbbw", "game mmbbcc", "reply mmbbc", "safe mmbbw",
        "rests mmbb", "rest mmbbw", "vain mmbb", "match ttw", "passed ttm", "led ttiw", "wins tt", "order tti",
        "bold tti", "sure tt", "pillar tt", "swap tii", "train mwW", "mend bwN", "rule wN", "judge nnw",
        "needed n", "gaps S", "himself Sw", "odd S", "wave bB", "calm bf", "champion bb", "beaten mbb", "ring bb",
        "margin mmbbp", "feared mbb", "weary mmbb", "part mmbb", "drawn smmbbw", "years snmmbbr", "day sttw",
        "count C", "image n", "back n", "row Swn", "write Siv", "paste SiSin", "feed vvvvv", "end n", "harbour ",
    };

    final Method ofClass;
    final Method ofModel;
    final Object[] arguments;

    private Calls(Method ofClass, Method ofModel, Object[] arguments) {
        this.ofClass = ofClass;
        this.ofModel = ofModel;
        this.arguments = arguments;
    }

    static int faceSize() {
        return FACE.length;
    }

    static Calls some(Random r, int[] told) throws Exception {
        return of(r, FACE[r.nextInt(FACE.length)], told);
    }

    static Calls of(Random r, int face, int[] told) throws Exception {
        return of(r, FACE[face], told);
    }

    /** Told: how many boats, men, teams there are. */
    private static Calls of(Random r, String form, int[] told) throws Exception {
        String name = form.substring(0, form.indexOf(' '));
        String kinds = form.substring(form.indexOf(' ') + 1);
        Method m = named(LongBoats.class, name);
        List<Object> args = new ArrayList<>();
        for (int i = 0; i < kinds.length(); i++) {
            long v = argument(r, kinds.charAt(i), told);
            args.add(m.getParameterTypes()[i] == long.class ? (Object) v : (Object) (int) v);
        }
        return new Calls(m, named(Model.class, name), args.toArray());
    }

    private static Method named(Class<?> c, String name) {
        return Arrays.stream(c.getDeclaredMethods()).filter(x -> x.getName().equals(name))
                .filter(x -> java.lang.reflect.Modifier.isPublic(x.getModifiers()))
                .max(Comparator.comparing(Method::getParameterCount)).orElseThrow();
    }

    private static long argument(Random r, char kind, int[] told) {
        int odd = r.nextInt(200);
        if (odd == 0) {
            long[] far = {Integer.MIN_VALUE, Integer.MAX_VALUE, -1, Integer.MAX_VALUE - 19, 1 << 30, -1000};
            return far[r.nextInt(far.length)];
        }
        switch (kind) {
            case 'b': return near(r, 0, told[0] - 1);
            case 'm': return near(r, 0, told[1] - 1);
            case 't': return near(r, 0, told[2] - 1);
            case 'p': return r.nextInt(3) == 0 ? near(r, 0, 99) : r.nextInt(8);
            case 'g': return r.nextInt(3) == 0 ? near(r, 0, 20) : near(r, 1, 6);
            case 'G': return near(r, 0, 12);
            case 'w': return r.nextInt(3) == 0 ? near(r, 0, 5) : r.nextInt(3);
            case 'C': return near(r, 0, 11);
            case 'i': return r.nextInt(20) == 0 ? near(r, 0, 60) : r.nextInt(8) - 2;
            case 'k': return near(r, 0, 2);
            case 'r': return near(r, 0, 3);
            case 'c': return near(r, 0, 9);
            case 's': return r.nextInt(10) == 0 ? 2000000000L - r.nextInt(3) + r.nextInt(2) : near(r, 0, 1999999999);
            case 'S': return near(r, 0, 3);
            case 'n': return r.nextInt(4) == 0 ? near(r, 0, 60) : r.nextInt(7) - 1;
            case 'N': return r.nextInt(3) == 0 ? near(r, 0, 50) : r.nextInt(14) - 1;
            case 'W': return r.nextInt(2) == 0 ? near(r, 40, 200) : r.nextInt(32) - 1;
            case 'f': return near(r, 0, 100);
            case 'F': return near(r, 1, 100);
            case 'B': return r.nextInt(2) == 0 ? near(r, 0, 999) : r.nextInt(50);
            default: return r.nextInt(4) == 0 ? r.nextLong() : r.nextInt(10);
        }
    }

    /** Of the bounds, or seldom one beyond. */
    private static int near(Random r, int least, int most) {
        int odd = r.nextInt(40);
        if (odd == 0 || most < least) {
            return least - 1;
        }
        return odd == 1 ? most + 1 : least + r.nextInt(most - least + 1);
    }

    String text() {
        String args = Arrays.toString(arguments);
        return ofClass.getName() + "(" + args.substring(1, args.length() - 1) + ")";
    }

    long askClass(LongBoats x) throws Exception {
        return ((Number) ofClass.invoke(x, arguments)).longValue();
    }

    long askModel(Model x) throws Exception {
        return ((Number) ofModel.invoke(x, arguments)).longValue();
    }
}
