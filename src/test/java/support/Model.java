import java.math.BigInteger;
import java.util.ArrayList;
import java.util.Arrays;
import java.util.Collections;
import java.util.HashSet;
import java.util.List;
import java.util.function.IntToLongFunction;

/**
 * The document once more, as plainly as can be and apart from the class: what is asked often is
 * reckoned anew each time, chances by going through all that can happen.
 */
public final class Model {
    static final class Man implements Cloneable {
        int[] t = new int[6];

        Man with(int what, int n) {
            Man m = new Man();
            m.t = t.clone();
            m.t[what] = n;
            return m;
        }
    }

    static final class World {
        int lines, stream, gap, passes, from, to, errs;
        List<int[]> boats = new ArrayList<>();
        List<Man> men = new ArrayList<>();
        List<Integer> teamBoats = new ArrayList<>();
        List<List<Integer>> teams = new ArrayList<>();

        World copy() {
            World w = new World();
            w.lines = lines;
            w.stream = stream;
            w.gap = gap;
            w.passes = passes;
            w.from = from;
            w.to = to;
            w.errs = errs;
            for (int[] b : boats) {
                w.boats.add(b.clone());
            }
            for (Man m : men) {
                w.men.add(m.with(0, m.t[0]));
            }
            w.teamBoats.addAll(teamBoats);
            for (List<Integer> t : teams) {
                w.teams.add(new ArrayList<>(t));
            }
            return w;
        }
    }

    private World w = new World();
    private final World[] images = new World[3];
    private final List<Byte> tape = new ArrayList<>();
    private final List<List<Long>> slots =
            new ArrayList<>(Arrays.asList(null, null, null, null));
    private final int[] widths = new int[4];
    private int fault = 0;
    private int place = -1;

    // ---- the text

    public long feed(int a, int b, int c, int d, int e) {
        if (tape.size() > 1180) {
            return -1;
        }
        for (int v : new int[] {a, b, c, d, e}) {
            tape.add((byte) (v >>> 24));
            tape.add((byte) (v >>> 16));
            tape.add((byte) (v >>> 8));
            tape.add((byte) v);
        }
        return tape.size();
    }

    public long end(int n) {
        if (n < 0 || n > tape.size()) {
            return -1;
        }
        tape.subList(n, tape.size()).clear();
        return n;
    }

    static final class Fault extends RuntimeException {
        final int what;
        final int at;

        Fault(int what, int at) {
            super(null, null, false, false);
            this.what = what;
            this.at = at;
        }
    }

    record Token(String text, int at) {
        boolean isNumber() {
            return !text.isEmpty() && Character.isDigit(text.charAt(0));
        }
    }

    private static final String[] LINES = {
        "reach 0-12 to 0-12",
        "boat oars 2-12 slip 0-4",
        "man weight 40-200 skill 0-30 quick 0-30 tires 0-9 leans 0-4 aims middle|corner|edge",
        "errs 0-50",
    };

    private List<Token> tokens() {
        StringBuilder sb = new StringBuilder();
        for (byte b : tape) {
            sb.append((char) (b & 255));
        }
        String s = sb.toString();
        List<Token> out = new ArrayList<>();
        java.util.regex.Matcher m =
                java.util.regex.Pattern.compile("[a-z]+|[0-9]+|[^ \\n]", java.util.regex.Pattern.DOTALL)
                        .matcher(s);
        while (m.find()) {
            out.add(new Token(m.group(), m.start()));
        }
        out.add(new Token("", s.length()));
        return out;
    }

    /** Reads one LINE by its form; the numbers (a WORD by its place among those it may be). */
    private static List<Integer> form(List<Token> ts, int[] at, String form) {
        List<Integer> out = new ArrayList<>();
        for (String part : form.split(" ")) {
            Token t = ts.get(at[0]);
            if (part.contains("-")) {
                if (!t.isNumber()) {
                    throw new Fault(1, t.at());
                }
                String[] bounds = part.split("-");
                BigInteger v = new BigInteger(t.text());
                if (v.compareTo(new BigInteger(bounds[0])) < 0
                        || v.compareTo(new BigInteger(bounds[1])) > 0) {
                    throw new Fault(2, t.at());
                }
                out.add(v.intValue());
            } else {
                int which = Arrays.asList(part.split("\\|")).indexOf(t.text());
                if (which < 0 || t.text().isEmpty()) {
                    throw new Fault(1, t.at());
                }
                out.add(which);
            }
            at[0]++;
        }
        return out;
    }

    private World parse() {
        List<Token> ts = tokens();
        World n = new World();
        int[] at = {0};
        while (!ts.get(at[0]).text().isEmpty()) {
            Token head = ts.get(at[0]);
            String word = head.text();
            if (n.lines == 0) {
                List<Integer> v = form(ts, at, "harbour stream 0-9 gap 0-12 passes 1-7");
                n.stream = v.get(2);
                n.gap = v.get(4);
                n.passes = v.get(6);
                n.from = 2;
                n.to = 4;
            } else if (word.equals("reach")) {
                List<Integer> first = form(ts, at, "reach 0-12 to");
                List<Integer> second = form(ts, at, first.get(1) + "-12");
                n.from = first.get(1);
                n.to = second.get(0);
            } else if (word.equals("boat")) {
                if (n.boats.size() == 4) {
                    throw new Fault(3, head.at());
                }
                List<Integer> v = form(ts, at, LINES[1]);
                n.boats.add(new int[] {v.get(2), v.get(4)});
            } else if (word.equals("man")) {
                if (n.men.size() == 10) {
                    throw new Fault(3, head.at());
                }
                List<Integer> v = form(ts, at, LINES[2]);
                Man man = new Man();
                for (int i = 0; i < 6; i++) {
                    man.t[i] = v.get(2 + 2 * i);
                }
                n.men.add(man);
            } else if (word.equals("errs")) {
                n.errs = form(ts, at, LINES[3]).get(1);
            } else if (word.equals("team")) {
                parseTeam(n, ts, at);
            } else {
                throw new Fault(1, head.at());
            }
            form(ts, at, ";");
            n.lines++;
        }
        return n;
    }

    private static void parseTeam(World n, List<Token> ts, int[] at) {
        if (n.teams.size() == 4) {
            throw new Fault(3, ts.get(at[0]).at());
        }
        at[0]++;
        Token b = ts.get(at[0]);
        if (!b.isNumber()) {
            throw new Fault(1, b.at());
        }
        if (new BigInteger(b.text()).compareTo(BigInteger.valueOf(n.boats.size())) >= 0) {
            throw new Fault(2, b.at());
        }
        List<Integer> crew = new ArrayList<>();
        at[0]++;
        do {
            Token m = ts.get(at[0]);
            if (!m.isNumber()) {
                throw new Fault(1, m.at());
            }
            BigInteger v = new BigInteger(m.text());
            if (v.compareTo(BigInteger.valueOf(n.men.size())) >= 0 || crew.contains(v.intValue())) {
                throw new Fault(2, m.at());
            }
            if (crew.size() == 5) {
                throw new Fault(3, m.at());
            }
            crew.add(v.intValue());
            at[0]++;
        } while (ts.get(at[0]).isNumber());
        n.teamBoats.add(new BigInteger(b.text()).intValue());
        n.teams.add(crew);
    }

    public long harbour() {
        fault = 0;
        place = -1;
        try {
            w = parse();
            return w.lines;
        } catch (Fault f) {
            fault = f.what;
            place = f.at;
            return -4;
        } finally {
            tape.clear();
        }
    }

    public long fault(int what) {
        return what == 0 ? fault : what == 1 ? place : -1;
    }

    // ---- what is told

    private boolean in(int n, int lo, int hi) {
        return lo <= n && n <= hi;
    }

    private boolean isMan(int m) {
        return in(m, 0, w.men.size() - 1);
    }

    private boolean isBoat(int b) {
        return in(b, 0, w.boats.size() - 1);
    }

    private boolean two(int man, int against, int boat, int other) {
        return isMan(man) && isMan(against) && man != against && isBoat(boat) && isBoat(other);
    }

    public long man(int man, int what) {
        return isMan(man) && in(what, 0, 5) ? w.men.get(man).t[what] : -2;
    }

    public long boat(int boat, int what) {
        return isBoat(boat) && in(what, 0, 1) ? w.boats.get(boat)[what] : -2;
    }

    public long team(int team, int i) {
        if (!in(team, 0, w.teams.size() - 1)) {
            return -2;
        }
        List<Integer> t = w.teams.get(team);
        return i == -1 ? w.teamBoats.get(team) : i == -2 ? t.size() : in(i, 0, t.size() - 1) ? t.get(i) : -1;
    }

    // ---- pass and bout

    private int sp(int boat, int other) {
        return Math.max(0, w.boats.get(boat)[0] + w.boats.get(other)[0] - w.stream);
    }

    private static int fo(Man m, int speed, int passes) {
        int[] byAim = {4, 2, 0};
        return Math.max(0, m.t[2] + speed + m.t[4] + byAim[m.t[5]] - m.t[3] * passes);
    }

    private static int st(Man m, Man against, int speed, int passes) {
        int v = m.t[1];
        v += m.t[0] / 10;
        v -= speed / 2;
        v -= (m.t[3] * passes) / 2;
        v -= 2 * Math.abs(m.t[4] - 2);
        v -= against.t[5] == 1 ? 3 : 0;
        return Math.max(0, v);
    }

    /** What becomes of the first one: 0 up, 1 by himself, 2 foul, 3 thrust off. */
    private int becomes(Man a, int pa, Man b, int pb, int speed, int gap) {
        boolean crash = gap < w.from;
        boolean wide = gap > w.to;
        if (wide && a.t[4] == 4) {
            return 1;
        }
        if (!wide && !crash && a.t[5] == 2) {
            return 2;
        }
        if (!wide && !crash && b.t[5] != 2 && fo(b, speed, pb) > st(a, b, speed, pa)) {
            return 3;
        }
        return 0;
    }

    private int res(Man a, int pa, Man b, int pb, int speed, int gap) {
        return (becomes(a, pa, b, pb, speed, gap) > 0 ? 1 : 0)
                | (becomes(b, pb, a, pa, speed, gap) > 0 ? 2 : 0);
    }

    public long speed(int boat, int other) {
        return isBoat(boat) && isBoat(other) ? sp(boat, other) : -2;
    }

    public long force(int man, int boat, int other, int passes) {
        return isMan(man) && isBoat(boat) && isBoat(other) && in(passes, 0, 99)
                ? fo(w.men.get(man), sp(boat, other), passes) : -2;
    }

    public long stands(int man, int against, int boat, int other, int passes) {
        return two(man, against, boat, other) && in(passes, 0, 99)
                ? st(w.men.get(man), w.men.get(against), sp(boat, other), passes) : -2;
    }

    public long pass(int man, int against, int boat, int other, int passes, int gap) {
        return two(man, against, boat, other) && in(passes, 0, 99) && in(gap, 0, 20)
                ? res(w.men.get(man), passes, w.men.get(against), passes, sp(boat, other), gap) : -2;
    }

    public long why(int man, int against, int boat, int other, int passes, int gap) {
        return two(man, against, boat, other) && in(passes, 0, 99) && in(gap, 0, 20)
                ? becomes(w.men.get(man), passes, w.men.get(against), passes, sp(boat, other), gap) : -2;
    }

    public long bout(int man, int against, int boat, int other, int what) {
        if (!two(man, against, boat, other) || !in(what, 0, 1)) {
            return -2;
        }
        for (int p = 0; p < w.passes; p++) {
            int r = res(w.men.get(man), p, w.men.get(against), p, sp(boat, other), w.gap);
            if (r != 0) {
                return what == 0 ? r : p;
            }
        }
        return what == 0 ? 0 : -1;
    }

    // ---- slips

    private List<Integer> slipGaps(int boat, int other, int steered) {
        List<Integer> out = new ArrayList<>();
        int a = w.boats.get(boat)[1];
        int b = w.boats.get(other)[1];
        for (int s = -a; s <= a; s++) {
            for (int t = -b; t <= b; t++) {
                out.add(steered + s - t);
            }
        }
        return out;
    }

    private int kind(int gap) {
        return gap < w.from ? 0 : gap <= w.to ? 1 : 2;
    }

    private static long frac(BigInteger above, BigInteger below, int what) {
        BigInteger g = above.gcd(below);
        return (what == 0 ? above : below).divide(g).longValueExact();
    }

    private static long frac(long above, long below, int what) {
        return frac(BigInteger.valueOf(above), BigInteger.valueOf(below), what);
    }

    public long comes(int boat, int other, int gap, int kind, int what) {
        if (!isBoat(boat) || !isBoat(other) || !in(gap, 0, 12) || !in(kind, 0, 2) || !in(what, 0, 1)) {
            return -2;
        }
        List<Integer> gs = slipGaps(boat, other, gap);
        return frac(gs.stream().filter(g -> kind(g) == kind).count(), gs.size(), what);
    }

    public long steer(int boat, int other, int above, int below) {
        if (!isBoat(boat) || !isBoat(other) || !in(above, 0, 100) || !in(below, 1, 100)) {
            return -2;
        }
        long best = -1;
        double most = -1;
        for (int gap = 0; gap <= 12; gap++) {
            List<Integer> gs = slipGaps(boat, other, gap);
            long crash = gs.stream().filter(g -> kind(g) == 0).count();
            long touch = gs.stream().filter(g -> kind(g) == 1).count();
            boolean ok = BigInteger.valueOf(crash).multiply(BigInteger.valueOf(below))
                    .compareTo(BigInteger.valueOf(above).multiply(BigInteger.valueOf(gs.size()))) <= 0;
            if (ok && touch > most) {
                most = touch;
                best = gap;
            }
        }
        return best;
    }

    /** Of all pairs of slips, how many have each RESULT. */
    private long[] spread(Man a, Man b, int speed, List<Integer> gs, int passes) {
        long[] out = new long[4];
        for (int g : gs) {
            out[res(a, passes, b, passes, speed, g)]++;
        }
        return out;
    }

    public long odds(int man, int against, int boat, int other, int result, int what) {
        if (!two(man, against, boat, other) || !in(result, 0, 3) || !in(what, 0, 1)) {
            return -2;
        }
        List<Integer> gs = slipGaps(boat, other, w.gap);
        return frac(spread(w.men.get(man), w.men.get(against), sp(boat, other), gs, 0)[result],
                gs.size(), what);
    }

    private BigInteger[] chance(Man a, Man b, int speed, List<Integer> gs, int p, int result) {
        // {above, below} of the chance that a BOUT that is at pass p ends with this RESULT
        if (p == w.passes) {
            return new BigInteger[] {result == 0 ? BigInteger.ONE : BigInteger.ZERO, BigInteger.ONE};
        }
        long[] s = spread(a, b, speed, gs, p);
        BigInteger[] later = chance(a, b, speed, gs, p + 1, result);
        BigInteger n = BigInteger.valueOf(gs.size());
        BigInteger now = result == 0 ? BigInteger.ZERO : BigInteger.valueOf(s[result]);
        return new BigInteger[] {
            now.multiply(later[1]).add(BigInteger.valueOf(s[0]).multiply(later[0])),
            n.multiply(later[1])};
    }

    public long ends(int man, int against, int boat, int other, int result, int what) {
        if (!two(man, against, boat, other) || !in(result, 0, 3) || !in(what, 0, 1)) {
            return -2;
        }
        BigInteger[] c = chance(w.men.get(man), w.men.get(against), sp(boat, other),
                slipGaps(boat, other, w.gap), 0, result);
        return frac(c[0], c[1], what);
    }

    private BigInteger[] mean(Man a, Man b, int speed, List<Integer> gs, int p) {
        if (p == w.passes) {
            return new BigInteger[] {BigInteger.ZERO, BigInteger.ONE};
        }
        BigInteger[] later = mean(a, b, speed, gs, p + 1);
        BigInteger up = BigInteger.valueOf(spread(a, b, speed, gs, p)[0]);
        BigInteger below = BigInteger.valueOf(gs.size()).multiply(later[1]);
        return new BigInteger[] {below.add(up.multiply(later[0])), below};
    }

    public long lasts(int man, int against, int boat, int other, int what) {
        if (!two(man, against, boat, other) || !in(what, 0, 1)) {
            return -2;
        }
        BigInteger[] c = mean(w.men.get(man), w.men.get(against), sp(boat, other),
                slipGaps(boat, other, w.gap), 0);
        return frac(c[0], c[1], what);
    }

    // ---- what is best

    private long gain(Man a, Man b, int speed, List<Integer> gs) {
        long[] s = spread(a, b, speed, gs, 0);
        return s[2] - s[1];
    }

    private static int firstMost(int from, int to, IntToLongFunction f) {
        int best = from;
        for (int i = from; i <= to; i++) {
            if (f.applyAsLong(i) > f.applyAsLong(best)) {
                best = i;
            }
        }
        return best;
    }

    private static Man chooses(Man m, int choice) {
        return m.with(4, choice / 2).with(5, choice % 2);
    }

    public long best(int man, int against, int boat, int other) {
        if (!two(man, against, boat, other)) {
            return -2;
        }
        List<Integer> gs = slipGaps(boat, other, w.gap);
        return firstMost(0, 9, c -> gain(chooses(w.men.get(man), c), w.men.get(against), sp(boat, other), gs));
    }

    public long oars(int man, int against, int boat, int other) {
        if (!two(man, against, boat, other)) {
            return -2;
        }
        List<Integer> gs = slipGaps(boat, other, w.gap);
        int was = w.boats.get(boat)[0];
        int best = firstMost(2, 12, n -> {
            w.boats.get(boat)[0] = n;
            return gain(w.men.get(man), w.men.get(against), sp(boat, other), gs);
        });
        w.boats.get(boat)[0] = was;
        return best;
    }

    public long heavy(int man, int against, int boat, int other) {
        if (!two(man, against, boat, other)) {
            return -2;
        }
        for (int n = 40; n <= 200; n++) {
            if (becomes(w.men.get(man).with(0, n), 0, w.men.get(against), 0, sp(boat, other), w.from) != 3) {
                return n;
            }
        }
        return -1;
    }

    public long even(int man, int against, int boat, int other, int what) {
        if (!two(man, against, boat, other) || !in(what, 0, 1)) {
            return -2;
        }
        List<Integer> gs = slipGaps(boat, other, w.gap);
        List<Integer> ok = new ArrayList<>();
        for (int n = 40; n <= 200; n++) {
            if (gain(w.men.get(man).with(0, n), w.men.get(against), sp(boat, other), gs) == 0) {
                ok.add(n);
            }
        }
        return what == 0 ? ok.size() : ok.isEmpty() ? -1 : ok.get(0);
    }

    // ---- games

    private long[][] matrix(int man, int against, int boat, int other) {
        List<Integer> gs = slipGaps(boat, other, w.gap);
        long[][] g = new long[10][10];
        for (int i = 0; i < 10; i++) {
            for (int j = 0; j < 10; j++) {
                g[i][j] = gain(chooses(w.men.get(man), i), chooses(w.men.get(against), j), sp(boat, other), gs);
            }
        }
        return g;
    }

    public long game(int man, int against, int boat, int other, int choice, int reply) {
        return two(man, against, boat, other) && in(choice, 0, 9) && in(reply, 0, 9)
                ? matrix(man, against, boat, other)[choice][reply] : -1000;
    }

    public long reply(int man, int against, int boat, int other, int choice) {
        if (!two(man, against, boat, other) || !in(choice, 0, 9)) {
            return -2;
        }
        long[][] g = matrix(man, against, boat, other);
        return firstMost(0, 9, j -> -g[choice][j]);
    }

    public long safe(int man, int against, int boat, int other, int what) {
        if (!two(man, against, boat, other) || !in(what, 0, 3)) {
            return -1000;
        }
        long[][] g = matrix(man, against, boat, other);
        long[] low = new long[10];
        long[] high = new long[10];
        for (int i = 0; i < 10; i++) {
            int k = i;
            low[i] = Arrays.stream(g[i]).min().getAsLong();
            high[i] = Arrays.stream(g).mapToLong(r -> r[k]).max().getAsLong();
        }
        int a = firstMost(0, 9, i -> low[i]);
        int b = firstMost(0, 9, j -> -high[j]);
        return new long[] {a, low[a], b, high[b]}[what];
    }

    private List<int[]> restList(int man, int against, int boat, int other) {
        long[][] g = matrix(man, against, boat, other);
        List<int[]> out = new ArrayList<>();
        for (int i = 0; i < 10; i++) {
            for (int j = 0; j < 10; j++) {
                boolean rest = true;
                for (int k = 0; k < 10; k++) {
                    rest &= g[k][j] <= g[i][j] && g[i][k] >= g[i][j];
                }
                if (rest) {
                    out.add(new int[] {i, j});
                }
            }
        }
        return out;
    }

    public long rests(int man, int against, int boat, int other) {
        return two(man, against, boat, other) ? restList(man, against, boat, other).size() : -2;
    }

    public long rest(int man, int against, int boat, int other, int what) {
        if (!two(man, against, boat, other) || !in(what, 0, 1)) {
            return -2;
        }
        List<int[]> l = restList(man, against, boat, other);
        return l.isEmpty() ? -1 : l.get(0)[what];
    }

    public long vain(int man, int against, int boat, int other) {
        if (!two(man, against, boat, other)) {
            return -2;
        }
        long[][] g = matrix(man, against, boat, other);
        long bits = 0;
        for (int i = 0; i < 10; i++) {
            for (int k = 0; k < 10; k++) {
                int better = 0;
                int worse = 0;
                for (int j = 0; j < 10; j++) {
                    better += g[i][j] > g[k][j] ? 1 : 0;
                    worse += g[i][j] < g[k][j] ? 1 : 0;
                }
                if (better == 0 && worse > 0) {
                    bits |= 1L << i;
                }
            }
        }
        return bits;
    }

    // ---- matches

    static final class Played {
        int winner;
        int left;
        List<int[]> bouts = new ArrayList<>();
        int[] had = new int[10];

        int worth() {
            return winner == 0 ? left : winner == 1 ? -left : 0;
        }
    }

    private Played play(List<Integer> a, List<Integer> b, int boat, int other, long[] x) {
        Played out = new Played();
        List<Integer> p = new ArrayList<>(a);
        List<Integer> q = new ArrayList<>(b);
        while (!p.isEmpty() && !q.isEmpty()) {
            int m = p.get(0);
            int n = q.get(0);
            int r = 0;
            int passes = 0;
            while (r == 0 && passes < w.passes) {
                int gap = w.gap + (x == null ? 0 : drawSlip(x, boat) - drawSlip(x, other));
                r = res(w.men.get(m), out.had[m], w.men.get(n), out.had[n], sp(boat, other), gap);
                out.had[m]++;
                out.had[n]++;
                passes++;
            }
            out.bouts.add(new int[] {m, n, r, passes});
            if (r == 0 || (r & 1) != 0) {
                p.remove(0);
            }
            if (r == 0 || (r & 2) != 0) {
                q.remove(0);
            }
        }
        out.winner = !p.isEmpty() ? 0 : !q.isEmpty() ? 1 : 2;
        out.left = Math.max(p.size(), q.size());
        return out;
    }

    private boolean teams(int team, int other) {
        return in(team, 0, w.teams.size() - 1) && in(other, 0, w.teams.size() - 1) && team != other
                && Collections.disjoint(w.teams.get(team), w.teams.get(other));
    }

    private Played play(List<Integer> a, List<Integer> b, int team, int other) {
        return play(a, b, w.teamBoats.get(team), w.teamBoats.get(other), null);
    }

    private Played play(int team, int other) {
        return play(w.teams.get(team), w.teams.get(other), team, other);
    }

    public long match(int team, int other, int what) {
        if (!teams(team, other) || !in(what, 0, 2)) {
            return -2;
        }
        Played p = play(team, other);
        return new int[] {p.winner, p.left, p.bouts.size()}[what];
    }

    public long passed(int team, int other, int man) {
        if (!teams(team, other)
                || !w.teams.get(team).contains(man) && !w.teams.get(other).contains(man)) {
            return -2;
        }
        return play(team, other).had[man];
    }

    public long led(int team, int other, int i, int what) {
        if (!teams(team, other) || !in(what, 0, 3)) {
            return -2;
        }
        Played p = play(team, other);
        return in(i, 0, p.bouts.size() - 1) ? p.bouts.get(i)[what] : -1;
    }

    /** All orders, the least row first. */
    private static List<List<Integer>> orders(List<Integer> crew) {
        List<Integer> sorted = new ArrayList<>(crew);
        Collections.sort(sorted);
        List<List<Integer>> out = new ArrayList<>();
        if (sorted.isEmpty()) {
            out.add(new ArrayList<>());
        }
        for (Integer first : sorted) {
            List<Integer> others = new ArrayList<>(sorted);
            others.remove(first);
            for (List<Integer> tail : orders(others)) {
                tail.add(0, first);
                out.add(tail);
            }
        }
        return out;
    }

    public long wins(int team, int other) {
        if (!teams(team, other)) {
            return -2;
        }
        return orders(w.teams.get(team)).stream()
                .filter(o -> play(o, w.teams.get(other), team, other).winner == 0).count();
    }

    public long order(int team, int other, int i) {
        if (!teams(team, other)) {
            return -2;
        }
        List<Integer> best = null;
        for (List<Integer> o : orders(w.teams.get(team))) {
            if (best == null || play(o, w.teams.get(other), team, other).worth()
                    > play(best, w.teams.get(other), team, other).worth()) {
                best = o;
            }
        }
        return in(i, 0, best.size() - 1) ? best.get(i) : -1;
    }

    private long beats(List<Integer> o, int team, int other) {
        return orders(w.teams.get(other)).stream().filter(p -> play(o, p, team, other).winner == 0).count();
    }

    public long bold(int team, int other, int i) {
        if (!teams(team, other)) {
            return -2;
        }
        List<Integer> best = null;
        long most = -1;
        for (List<Integer> o : orders(w.teams.get(team))) {
            long b = beats(o, team, other);
            if (b > most) {
                most = b;
                best = o;
            }
        }
        return i == -1 ? most : in(i, 0, best.size() - 1) ? best.get(i) : -1;
    }

    public long sure(int team, int other) {
        if (!teams(team, other)) {
            return -2;
        }
        int all = orders(w.teams.get(other)).size();
        return orders(w.teams.get(team)).stream().anyMatch(o -> beats(o, team, other) == all) ? 1 : 0;
    }

    public long pillar(int team, int other) {
        if (!teams(team, other)) {
            return -2;
        }
        List<Integer> crew = w.teams.get(team);
        if (crew.size() == 1) {
            return -1;
        }
        int worst = firstMost(0, crew.size() - 1, i -> {
            List<Integer> without = new ArrayList<>(crew);
            without.remove(i);
            return -play(without, w.teams.get(other), team, other).worth();
        });
        return crew.get(worst);
    }

    // ---- changes

    public long swap(int team, int i, int k) {
        if (!in(team, 0, w.teams.size() - 1)) {
            return -2;
        }
        List<Integer> t = w.teams.get(team);
        if (!in(i, 0, t.size() - 1) || !in(k, 0, t.size() - 1)) {
            return -2;
        }
        Collections.swap(t, i, k);
        return 0;
    }

    public long train(int man, int what, int n) {
        int[] lo = {40, 0, 0, 0, 0, 0};
        int[] hi = {200, 30, 30, 9, 4, 2};
        if (!isMan(man) || !in(what, 0, 5) || !in(n, lo[what], hi[what])) {
            return -2;
        }
        int was = w.men.get(man).t[what];
        w.men.get(man).t[what] = n;
        return was;
    }

    public long mend(int boat, int what, int n) {
        if (!isBoat(boat) || !in(what, 0, 1) || !in(n, what == 0 ? 2 : 0, what == 0 ? 12 : 4)) {
            return -2;
        }
        int was = w.boats.get(boat)[what];
        w.boats.get(boat)[what] = n;
        return was;
    }

    public long rule(int what, int n) {
        int[] lo = {0, 0, 1, 0};
        int[] hi = {12, 9, 7, 50};
        if (w.lines == 0 || !in(what, 0, 3) || !in(n, lo[what], hi[what])) {
            return -2;
        }
        int[] was = {w.gap, w.stream, w.passes, w.errs};
        w.gap = what == 0 ? n : w.gap;
        w.stream = what == 1 ? n : w.stream;
        w.passes = what == 2 ? n : w.passes;
        w.errs = what == 3 ? n : w.errs;
        return was[what];
    }

    // ---- judges

    /** {edge and told so, all told so}, of all that n judges can say of each MAN. */
    private BigInteger[] heard(int k, int n) {
        BigInteger edge = BigInteger.ZERO;
        BigInteger all = BigInteger.ZERO;
        for (Man m : w.men) {
            for (int said = 0; said < 1 << n; said++) {
                if (Integer.bitCount(said) == k) {
                    BigInteger ways = BigInteger.ONE;
                    for (int j = 0; j < n; j++) {
                        boolean right = (said >> j & 1) == 1 == (m.t[5] == 2);
                        ways = ways.multiply(BigInteger.valueOf(right ? 100 - w.errs : w.errs));
                    }
                    all = all.add(ways);
                    edge = m.t[5] == 2 ? edge.add(ways) : edge;
                }
            }
        }
        return new BigInteger[] {edge, all};
    }

    public long judge(int k, int n, int what) {
        if (!in(n, 1, 4) || !in(k, 0, n) || !in(what, 0, 1) || w.men.isEmpty()) {
            return -2;
        }
        BigInteger[] h = heard(k, n);
        return h[1].signum() == 0 ? -1 : frac(h[0], h[1], what);
    }

    public long needed(int n) {
        if (!in(n, 1, 4) || w.men.isEmpty()) {
            return -2;
        }
        for (int k = 0; k <= n; k++) {
            BigInteger[] h = heard(k, n);
            if (h[0].add(h[0]).compareTo(h[1]) > 0) {
                return k;
            }
        }
        return -1;
    }

    // ---- pictures

    private long pictured(int slot) {
        if (!in(slot, 0, 3) || w.boats.size() < 2) {
            return -2;
        }
        List<Long> r = slots.get(slot);
        if (r == null) {
            return -6;
        }
        if (r.size() % 3 != 0) {
            return -2;
        }
        for (int i = 0; i < r.size(); i++) {
            long most = i % 3 == 2 ? 3 : w.men.size() - 1;
            if (r.get(i) < 0 || r.get(i) > most || i % 3 == 1 && r.get(i).equals(r.get(i - 1))) {
                return -2;
            }
        }
        return 0;
    }

    private Man of(int slot, int i) {
        return w.men.get(slots.get(slot).get(i).intValue());
    }

    private boolean soAt(int slot, int picture, int gap) {
        int i = 3 * picture;
        return res(of(slot, i), 0, of(slot, i + 1), 0, sp(0, 1), gap) == slots.get(slot).get(i + 2);
    }

    private List<Integer> openGaps(int slot) {
        List<Integer> out = new ArrayList<>();
        for (int g = 0; g <= 20; g++) {
            boolean ok = true;
            for (int i = 0; i < slots.get(slot).size() / 3; i++) {
                ok &= soAt(slot, i, g);
            }
            if (ok) {
                out.add(g);
            }
        }
        return out;
    }

    public long gaps(int slot) {
        return pictured(slot) != 0 ? pictured(slot) : openGaps(slot).stream().mapToLong(g -> 1L << g).sum();
    }

    public long himself(int slot, int what) {
        if (!in(what, 0, 2)) {
            return -2;
        }
        if (pictured(slot) != 0) {
            return pictured(slot);
        }
        List<Integer> open = openGaps(slot);
        if (open.isEmpty()) {
            return -1;
        }
        long many = 0;
        for (int i = 0; i < slots.get(slot).size(); i += 3) {
            HashSet<Integer> fates = new HashSet<>();
            for (int g : open) {
                fates.add(becomes(of(slot, i), 0, of(slot, i + 1), 0, sp(0, 1), g));
            }
            many += fates.equals(java.util.Set.of(what + 1)) ? 1 : 0;
        }
        return many;
    }

    public long odd(int slot) {
        if (pictured(slot) != 0) {
            return pictured(slot);
        }
        for (int i = 0; i < slots.get(slot).size() / 3; i++) {
            if (!soAt(slot, i, w.gap)) {
                return i;
            }
        }
        return -1;
    }

    // ---- waves

    public long wave(int boat, int beats) {
        return isBoat(boat) && in(beats, 0, 999) ? 4 * w.boats.get(boat)[0] / (beats + 1) : -2;
    }

    public long calm(int boat, int n) {
        if (!isBoat(boat) || !in(n, 0, 99)) {
            return -2;
        }
        int beats = 0;
        while (wave(boat, beats) > n) {
            beats++;
        }
        return beats;
    }

    // ---- man by man

    public long champion(int boat, int other) {
        if (!isBoat(boat) || !isBoat(other)) {
            return -2;
        }
        if (w.men.size() < 2) {
            return -1;
        }
        return firstMost(0, w.men.size() - 1, m -> {
            long outs = 0;
            for (int o = 0; o < w.men.size(); o++) {
                outs += o != m && (pass(m, o, boat, other, 0, w.gap) & 1) == 1 ? 1 : 0;
            }
            return -outs;
        });
    }

    public long beaten(int man, int boat, int other) {
        if (!isMan(man) || !isBoat(boat) || !isBoat(other)) {
            return -2;
        }
        long many = 0;
        for (int o = 0; o < w.men.size(); o++) {
            many += o != man && why(man, o, boat, other, 0, w.gap) == 3 ? 1 : 0;
        }
        return many;
    }

    public long ring(int boat, int other) {
        if (!isBoat(boat) || !isBoat(other)) {
            return -2;
        }
        for (int n = 0; n < 1000; n++) {
            int a = n / 100;
            int b = n / 10 % 10;
            int c = n % 10;
            if (a < b && a < c && pass(a, b, boat, other, 0, w.gap) == 2
                    && pass(b, c, boat, other, 0, w.gap) == 2 && pass(c, a, boat, other, 0, w.gap) == 2) {
                return n;
            }
        }
        return -1;
    }

    public long margin(int man, int against, int boat, int other, int passes) {
        return two(man, against, boat, other) && in(passes, 0, 99)
                ? force(man, boat, other, passes) - stands(against, man, boat, other, passes) : -1000;
    }

    public long feared(int man, int boat, int other) {
        if (!isMan(man) || !isBoat(boat) || !isBoat(other)) {
            return -2;
        }
        long who = -1;
        long most = Long.MIN_VALUE;
        for (int o = 0; o < w.men.size(); o++) {
            if (o != man && w.men.get(o).t[5] != 2
                    && force(o, other, boat, 0) - stands(man, o, boat, other, 0) > most) {
                most = force(o, other, boat, 0) - stands(man, o, boat, other, 0);
                who = o;
            }
        }
        return who;
    }

    public long weary(int man, int against, int boat, int other) {
        if (!two(man, against, boat, other)) {
            return -2;
        }
        for (int p = 0; p <= 99; p++) {
            if (force(man, boat, other, p) <= stands(against, man, boat, other, 0)) {
                return p;
            }
        }
        return -1;
    }

    public long part(int man, int against, int boat, int other) {
        if (!two(man, against, boat, other)) {
            return -1000;
        }
        List<Integer> gs = slipGaps(boat, other, w.gap);
        List<Integer> straight = Collections.nCopies(gs.size(), w.gap);
        Man a = w.men.get(man);
        Man b = w.men.get(against);
        return gain(a, b, sp(boat, other), gs) - gain(a, b, sp(boat, other), straight);
    }

    // ---- draws

    private int drawSlip(long[] x, int boat) {
        x[0] = BigInteger.valueOf(x[0]).multiply(BigInteger.valueOf(1103515245))
                .add(BigInteger.valueOf(12345)).mod(BigInteger.valueOf(2147483648L)).longValue();
        int slip = w.boats.get(boat)[1];
        return (int) (x[0] / 65536 % (2 * slip + 1)) - slip;
    }

    public long drawn(int seed, int man, int against, int boat, int other, int what) {
        if (!two(man, against, boat, other) || !in(seed, 0, 2000000000) || !in(what, 0, 2)) {
            return -2;
        }
        long[] x = {seed};
        int crashes = 0;
        for (int p = 0; p < w.passes; p++) {
            int first = drawSlip(x, boat);
            int second = drawSlip(x, other);
            int gap = w.gap + first - second;
            crashes += gap < w.from ? 1 : 0;
            int r = res(w.men.get(man), p, w.men.get(against), p, sp(boat, other), gap);
            if (r != 0) {
                return new int[] {r, p, crashes}[what];
            }
        }
        return new int[] {0, -1, crashes}[what];
    }

    public long years(int seed, int n, int man, int against, int boat, int other, int result) {
        if (!two(man, against, boat, other) || !in(seed, 0, 2000000000) || !in(n, 1, 20)
                || !in(result, 0, 3)) {
            return -2;
        }
        long many = 0;
        for (int s = seed; s < seed + n; s++) {
            long[] x = {s};
            int r = 0;
            for (int p = 0; p < w.passes && r == 0; p++) {
                int gap = w.gap + drawSlip(x, boat) - drawSlip(x, other);
                r = res(w.men.get(man), p, w.men.get(against), p, sp(boat, other), gap);
            }
            many += r == result ? 1 : 0;
        }
        return many;
    }

    public long day(int seed, int team, int other, int what) {
        if (!teams(team, other) || !in(seed, 0, 2000000000) || !in(what, 0, 2)) {
            return -2;
        }
        Played p = play(w.teams.get(team), w.teams.get(other), w.teamBoats.get(team),
                w.teamBoats.get(other), new long[] {seed});
        return new int[] {p.winner, p.left, p.bouts.size()}[what];
    }

    // ---- counts, images, slots

    public long count(int what) {
        long rows = slots.stream().filter(s -> s != null).count();
        long[] all = {w.boats.size(), w.men.size(), w.teams.size(), w.stream, w.gap, w.passes, w.from,
            w.to, w.errs, w.lines, tape.size(), rows};
        return in(what, 0, 11) ? all[what] : -1;
    }

    public long image(int k) {
        if (!in(k, 0, 2)) {
            return -2;
        }
        images[k] = w.copy();
        return 0;
    }

    public long back(int k) {
        if (!in(k, 0, 2)) {
            return -2;
        }
        if (images[k] == null) {
            return -6;
        }
        w = images[k].copy();
        return 0;
    }

    public long row(int slot, int width, int n) {
        if (!in(slot, 0, 3) || !in(width, 0, 3) || n > 60) {
            return -2;
        }
        if (n < 0) {
            return -3;
        }
        widths[slot] = width;
        slots.set(slot, new ArrayList<>(Collections.nCopies(n, 0L)));
        return 0;
    }

    public long write(int slot, int i, long v) {
        if (!in(slot, 0, 3)) {
            return -2;
        }
        if (slots.get(slot) == null) {
            return -6;
        }
        if (!in(i, 0, slots.get(slot).size() - 1)) {
            return -7;
        }
        int spare = 64 - (8 << widths[slot]);
        slots.get(slot).set(i, v << spare >> spare);
        return 0;
    }

    public long paste(int slot, int i, int to, int k, int n) {
        if (!in(slot, 0, 3) || !in(to, 0, 3)) {
            return -2;
        }
        if (slots.get(slot) == null || slots.get(to) == null) {
            return -6;
        }
        if (widths[slot] != widths[to]) {
            return -8;
        }
        if (i < 0 || k < 0 || n < 0 || (long) i + n > slots.get(slot).size()
                || (long) k + n > slots.get(to).size()) {
            return -7;
        }
        List<Long> part = new ArrayList<>(slots.get(slot).subList(i, i + n));
        for (int j = 0; j < n; j++) {
            slots.get(to).set(k + j, part.get(j));
        }
        return 0;
    }
}
