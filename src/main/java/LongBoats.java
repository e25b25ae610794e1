/** Jousts from boat to boat, told as a text; ../shared/DOC.md says what every call answers. */
public final class LongBoats {
    public static final int NONE = -1;

    private static final int NO_SUCH = -2;
    private static final int BELOW = -3;
    private static final int FAULTY = -4;
    private static final int EMPTY = -6;
    private static final int BEYOND = -7;
    private static final int UNLIKE = -8;
    private static final int NO_GAME = -1000;

    private static final int MOST_BOATS = 4;
    private static final int MOST_MEN = 10;
    private static final int MOST_TEAMS = 4;
    private static final int MOST_CREW = 5;
    private static final int MOST_PASSES = 99;
    private static final int MOST_STEERED = 12;
    private static final int MOST_GAP = 20;
    private static final int MOST_SEED = 2000000000;
    private static final int LEAST_WEIGHT = 40;
    private static final int MOST_WEIGHT = 200;
    private static final int LEAST_OARS = 2;
    private static final int MOST_OARS = 12;
    private static final int MOST_SLIP = 4;
    private static final int MOST_STREAM = 9;
    private static final int MOST_BOUT = 7;
    private static final int MOST_ERRS = 50;
    private static final int MOST_JUDGES = 4;
    private static final int CHOICES = 10;
    private static final int IMAGES = 3;

    private static final int WEIGHT = 0;
    private static final int SKILL = 1;
    private static final int QUICK = 2;
    private static final int TIRES = 3;
    private static final int LEANS = 4;
    private static final int AIMS = 5;
    private static final int TRAITS = 6;

    private static final int MIDDLE = 0;
    private static final int CORNER = 1;
    private static final int EDGE = 2;

    private static final int CRASH = 0;
    private static final int TOUCH = 1;
    private static final int WIDE = 2;

    private static final int UP = 0;
    private static final int FELL = 1;
    private static final int FOUL = 2;
    private static final int OFF = 3;

    private static final int NOBODY = 0;
    private static final int FIRST_OUT = 1;
    private static final int SECOND_OUT = 2;
    private static final int BOTH_OUT = 3;

    private final Tape tape;
    private final Reader reader;
    private final Harbour now;
    private final Harbour draft;
    private final Harbour[] images;
    private final Shelf shelf;
    private final Duel duel;
    private final Contest contest;
    private final Grid grid;

    public LongBoats() {
        tape = new Tape();
        now = new Harbour();
        draft = new Harbour();
        reader = new Reader(tape, draft);
        images = new Harbour[IMAGES];
        shelf = new Shelf();
        duel = new Duel();
        contest = new Contest(now, duel);
        grid = new Grid();
    }

    // The text.

    public int feed(int a, int b, int c, int d, int e) {
        if (tape.isFull()) {
            return NONE;
        }
        tape.put(a);
        tape.put(b);
        tape.put(c);
        tape.put(d);
        tape.put(e);
        return tape.length();
    }

    public int end(int n) {
        if (!within(n, 0, tape.length())) {
            return NONE;
        }
        tape.cut(n);
        return n;
    }

    public int harbour() {
        boolean sound = reader.reads();
        // A faulty text is gone from the TAPE too: what stays is the HARBOUR.
        tape.cut(0);
        if (!sound) {
            return FAULTY;
        }
        now.copyFrom(draft);
        return now.lines;
    }

    public int fault(int what) {
        if (what == 0) {
            return reader.fault;
        }
        return what == 1 ? reader.place : NONE;
    }

    // What is told.

    public int man(int man, int what) {
        return now.hasMan(man) && within(what, WEIGHT, AIMS) ? now.trait(man, what) : NO_SUCH;
    }

    public int boat(int boat, int what) {
        return now.hasBoat(boat) && within(what, 0, 1) ? now.gear(boat, what) : NO_SUCH;
    }

    public int team(int team, int i) {
        if (!now.hasTeam(team)) {
            return NO_SUCH;
        }
        if (i == -1) {
            return now.boatOf(team);
        }
        if (i == -2) {
            return now.sizeOf(team);
        }
        return within(i, 0, now.sizeOf(team) - 1) ? now.mate(team, i) : NONE;
    }

    // A pass and a bout, no slips.

    public int speed(int boat, int other) {
        return now.hasBoats(boat, other) ? now.speedOf(boat, other) : NO_SUCH;
    }

    public int force(int man, int boat, int other, int passes) {
        if (!now.hasMan(man) || !now.hasBoats(boat, other) || !within(passes, 0, MOST_PASSES)) {
            return NO_SUCH;
        }
        duel.place(now, boat, other);
        duel.one.load(now, man);
        return duel.one.thrust(duel.speed, passes);
    }

    public int stands(int man, int against, int boat, int other, int passes) {
        if (!within(passes, 0, MOST_PASSES) || !faces(man, against, boat, other)) {
            return NO_SUCH;
        }
        return duel.one.hold(duel.speed, passes, duel.two.aims);
    }

    public int pass(int man, int against, int boat, int other, int passes, int gap) {
        if (!within(passes, 0, MOST_PASSES) || !within(gap, 0, MOST_GAP)
                || !faces(man, against, boat, other)) {
            return NO_SUCH;
        }
        return duel.resultOf(duel.kindOf(gap), passes, passes);
    }

    public int why(int man, int against, int boat, int other, int passes, int gap) {
        if (!within(passes, 0, MOST_PASSES) || !within(gap, 0, MOST_GAP)
                || !faces(man, against, boat, other)) {
            return NO_SUCH;
        }
        return duel.fateOfOne(duel.kindOf(gap), passes, passes);
    }

    public int bout(int man, int against, int boat, int other, int what) {
        if (!within(what, 0, 1) || !faces(man, against, boat, other)) {
            return NO_SUCH;
        }
        duel.runBout(0, 0);
        return what == 0 ? duel.result : lastPass();
    }

    // Slips.

    public int comes(int boat, int other, int gap, int kind, int what) {
        if (!now.hasBoats(boat, other) || !within(gap, 0, MOST_STEERED)
                || !within(kind, CRASH, WIDE) || !within(what, 0, 1)) {
            return NO_SUCH;
        }
        duel.place(now, boat, other);
        duel.countSlips(gap);
        return (int) lowest(duel.pairs.at(kind), duel.allPairs(), what);
    }

    public int steer(int boat, int other, int above, int below) {
        if (!now.hasBoats(boat, other) || !within(above, 0, 100) || !within(below, 1, 100)) {
            return NO_SUCH;
        }
        duel.place(now, boat, other);
        int best = NONE;
        int most = -1;
        for (int gap = 0; gap <= MOST_STEERED; gap++) {
            duel.countSlips(gap);
            boolean safeEnough = duel.pairs.at(CRASH) * below <= above * duel.allPairs();
            if (safeEnough && duel.pairs.at(TOUCH) > most) {
                most = duel.pairs.at(TOUCH);
                best = gap;
            }
        }
        return best;
    }

    public int odds(int man, int against, int boat, int other, int result, int what) {
        if (!within(result, NOBODY, BOTH_OUT) || !within(what, 0, 1)
                || !faces(man, against, boat, other)) {
            return NO_SUCH;
        }
        duel.countSlips(duel.gap);
        return (int) lowest(duel.pairsOf(result, 0), duel.allPairs(), what);
    }

    public long ends(int man, int against, int boat, int other, int result, int what) {
        if (!within(result, NOBODY, BOTH_OUT) || !within(what, 0, 1)
                || !faces(man, against, boat, other)) {
            return NO_SUCH;
        }
        duel.countSlips(duel.gap);
        long above = 0;
        long below = 1;
        long reached = 1;
        for (int p = 0; p < duel.limit; p++) {
            above = above * duel.allPairs() + reached * duel.pairsOf(result, p);
            below = below * duel.allPairs();
            reached = reached * duel.pairsOf(NOBODY, p);
        }
        return lowest(result == NOBODY ? reached : above, below, what);
    }

    public long lasts(int man, int against, int boat, int other, int what) {
        if (!within(what, 0, 1) || !faces(man, against, boat, other)) {
            return NO_SUCH;
        }
        duel.countSlips(duel.gap);
        long above = 1;
        long below = 1;
        long reached = 1;
        for (int p = 0; p + 1 < duel.limit; p++) {
            reached = reached * duel.pairsOf(NOBODY, p);
            above = above * duel.allPairs() + reached;
            below = below * duel.allPairs();
        }
        return lowest(above, below, what);
    }

    // What is best.

    public int best(int man, int against, int boat, int other) {
        if (!faces(man, against, boat, other)) {
            return NO_SUCH;
        }
        duel.countSlips(duel.gap);
        int best = 0;
        int most = -duel.allPairs() - 1;
        for (int choice = 0; choice < CHOICES; choice++) {
            duel.one.choose(choice);
            int gain = duel.gain();
            if (gain > most) {
                most = gain;
                best = choice;
            }
        }
        return best;
    }

    public int oars(int man, int against, int boat, int other) {
        if (!faces(man, against, boat, other)) {
            return NO_SUCH;
        }
        duel.countSlips(duel.gap);
        int best = LEAST_OARS;
        int most = -duel.allPairs() - 1;
        for (int n = LEAST_OARS; n <= MOST_OARS; n++) {
            duel.speed = now.speedWith(boat, n, other);
            int gain = duel.gain();
            if (gain > most) {
                most = gain;
                best = n;
            }
        }
        return best;
    }

    public int heavy(int man, int against, int boat, int other) {
        if (!faces(man, against, boat, other)) {
            return NO_SUCH;
        }
        for (int weight = LEAST_WEIGHT; weight <= MOST_WEIGHT; weight++) {
            duel.one.weight = weight;
            if (duel.fateOfOne(TOUCH, 0, 0) != OFF) {
                return weight;
            }
        }
        return NONE;
    }

    public int even(int man, int against, int boat, int other, int what) {
        if (!within(what, 0, 1) || !faces(man, against, boat, other)) {
            return NO_SUCH;
        }
        duel.countSlips(duel.gap);
        int many = 0;
        int least = NONE;
        for (int weight = LEAST_WEIGHT; weight <= MOST_WEIGHT; weight++) {
            duel.one.weight = weight;
            if (duel.gain() == 0) {
                many++;
                least = least == NONE ? weight : least;
            }
        }
        return what == 0 ? many : least;
    }

    // Games of choices.

    public int game(int man, int against, int boat, int other, int choice, int reply) {
        if (!isChoice(choice) || !isChoice(reply) || !faces(man, against, boat, other)) {
            return NO_GAME;
        }
        duel.countSlips(duel.gap);
        duel.one.choose(choice);
        duel.two.choose(reply);
        return duel.gain();
    }

    public int reply(int man, int against, int boat, int other, int choice) {
        if (!isChoice(choice) || !faces(man, against, boat, other)) {
            return NO_SUCH;
        }
        grid.fillFrom(duel);
        return grid.worstReply(choice);
    }

    public int safe(int man, int against, int boat, int other, int what) {
        if (!within(what, 0, 3) || !faces(man, against, boat, other)) {
            return NO_GAME;
        }
        grid.fillFrom(duel);
        if (what <= 1) {
            int choice = grid.safeChoice();
            return what == 0 ? choice : grid.at(choice, grid.worstReply(choice));
        }
        int answer = grid.safeReply();
        return what == 2 ? answer : grid.at(grid.bestChoice(answer), answer);
    }

    public int rests(int man, int against, int boat, int other) {
        if (!faces(man, against, boat, other)) {
            return NO_SUCH;
        }
        grid.fillFrom(duel);
        int many = 0;
        for (int cell = 0; cell < CHOICES * CHOICES; cell++) {
            many += grid.isRest(cell / CHOICES, cell % CHOICES) ? 1 : 0;
        }
        return many;
    }

    public int rest(int man, int against, int boat, int other, int what) {
        if (!within(what, 0, 1) || !faces(man, against, boat, other)) {
            return NO_SUCH;
        }
        grid.fillFrom(duel);
        for (int cell = 0; cell < CHOICES * CHOICES; cell++) {
            if (grid.isRest(cell / CHOICES, cell % CHOICES)) {
                return what == 0 ? cell / CHOICES : cell % CHOICES;
            }
        }
        return NONE;
    }

    public int vain(int man, int against, int boat, int other) {
        if (!faces(man, against, boat, other)) {
            return NO_SUCH;
        }
        grid.fillFrom(duel);
        int bits = 0;
        for (int choice = 0; choice < CHOICES; choice++) {
            bits |= grid.isVain(choice) ? 1 << choice : 0;
        }
        return bits;
    }

    // Matches.

    public int match(int team, int other, int what) {
        if (!within(what, 0, 2) || !meets(team, other)) {
            return NO_SUCH;
        }
        contest.run();
        return contest.outcome(what);
    }

    public int passed(int team, int other, int man) {
        if (!meets(team, other) || !(now.isMate(team, man) || now.isMate(other, man))) {
            return NO_SUCH;
        }
        contest.run();
        return contest.had.at(man);
    }

    public int led(int team, int other, int i, int what) {
        if (!within(what, 0, 3) || !meets(team, other)) {
            return NO_SUCH;
        }
        contest.run();
        return within(i, 0, contest.bouts - 1) ? contest.logged(i, what) : NONE;
    }

    public int wins(int team, int other) {
        if (!meets(team, other)) {
            return NO_SUCH;
        }
        return contest.winningOrders();
    }

    public int order(int team, int other, int i) {
        if (!meets(team, other)) {
            return NO_SUCH;
        }
        if (!within(i, 0, now.sizeOf(team) - 1)) {
            return NONE;
        }
        contest.findBest();
        return contest.found.at(i);
    }

    public int bold(int team, int other, int i) {
        if (!meets(team, other)) {
            return NO_SUCH;
        }
        if (!within(i, -1, now.sizeOf(team) - 1)) {
            return NONE;
        }
        int beatenOrders = contest.findBold();
        return i == -1 ? beatenOrders : contest.found.at(i);
    }

    public int sure(int team, int other) {
        if (!meets(team, other)) {
            return NO_SUCH;
        }
        return contest.findBold() == ordersOf(now.sizeOf(other)) ? 1 : 0;
    }

    public int pillar(int team, int other) {
        if (!meets(team, other)) {
            return NO_SUCH;
        }
        if (now.sizeOf(team) <= 1) {
            return NONE;
        }
        int pillar = NONE;
        int worst = MOST_CREW + 1;
        for (int i = 0; i < now.sizeOf(team); i++) {
            contest.lineUp(team, other);
            contest.leaveOut(i);
            contest.run();
            if (contest.score() < worst) {
                worst = contest.score();
                pillar = now.mate(team, i);
            }
        }
        return pillar;
    }

    // Changes.

    public int swap(int team, int i, int k) {
        if (!now.hasTeam(team) || !within(i, 0, now.sizeOf(team) - 1)
                || !within(k, 0, now.sizeOf(team) - 1)) {
            return NO_SUCH;
        }
        int first = now.mate(team, i);
        now.setMate(team, i, now.mate(team, k));
        now.setMate(team, k, first);
        return 0;
    }

    public int train(int man, int what, int n) {
        if (!now.hasMan(man) || !within(what, WEIGHT, AIMS) || !Harbour.traitFits(what, n)) {
            return NO_SUCH;
        }
        int was = now.trait(man, what);
        now.setTrait(man, what, n);
        return was;
    }

    public int mend(int boat, int what, int n) {
        if (!now.hasBoat(boat) || !within(what, 0, 1) || !Harbour.gearFits(what, n)) {
            return NO_SUCH;
        }
        int was = now.gear(boat, what);
        now.setGear(boat, what, n);
        return was;
    }

    public int rule(int what, int n) {
        if (now.lines == 0) {
            return NO_SUCH;
        }
        int was = NO_SUCH;
        if (what == 0 && within(n, 0, MOST_STEERED)) {
            was = now.gap;
            now.gap = n;
        } else if (what == 1 && within(n, 0, MOST_STREAM)) {
            was = now.stream;
            now.stream = n;
        } else if (what == 2 && within(n, 1, MOST_BOUT)) {
            was = now.passes;
            now.passes = n;
        } else if (what == 3 && within(n, 0, MOST_ERRS)) {
            was = now.errs;
            now.errs = n;
        }
        return was;
    }

    // Judges.

    public long judge(int k, int n, int what) {
        if (!within(n, 1, MOST_JUDGES) || !within(k, 0, n) || !within(what, 0, 1)
                || now.men == 0) {
            return NO_SUCH;
        }
        long edge = edgeWays(k, n);
        long all = edge + otherWays(k, n);
        return all == 0 ? NONE : lowest(edge, all, what);
    }

    public int needed(int n) {
        if (!within(n, 1, MOST_JUDGES) || now.men == 0) {
            return NO_SUCH;
        }
        for (int k = 0; k <= n; k++) {
            if (edgeWays(k, n) > otherWays(k, n)) {
                return k;
            }
        }
        return NONE;
    }

    // Pictures.

    public int gaps(int slot) {
        int wrong = pictureFault(slot);
        return wrong != 0 ? wrong : gapBits(slot);
    }

    public int himself(int slot, int what) {
        if (!within(what, 0, 2)) {
            return NO_SUCH;
        }
        int wrong = pictureFault(slot);
        if (wrong != 0) {
            return wrong;
        }
        int bits = gapBits(slot);
        if (bits == 0) {
            return NONE;
        }
        int many = 0;
        for (int i = 0; i + 2 < shelf.size(slot); i += 3) {
            many += isSure(slot, i, what + 1, bits) ? 1 : 0;
        }
        return many;
    }

    public int odd(int slot) {
        int wrong = pictureFault(slot);
        if (wrong != 0) {
            return wrong;
        }
        for (int i = 0; i + 2 < shelf.size(slot); i += 3) {
            showPicture(slot, i);
            if (duel.resultOf(duel.kindOf(duel.gap), 0, 0) != shelf.at(slot, i + 2)) {
                return i / 3;
            }
        }
        return NONE;
    }

    // Waves.

    public int wave(int boat, int beats) {
        if (!now.hasBoat(boat) || !within(beats, 0, 999)) {
            return NO_SUCH;
        }
        return 4 * now.gear(boat, 0) / (beats + 1);
    }

    public int calm(int boat, int n) {
        if (!now.hasBoat(boat) || !within(n, 0, 99)) {
            return NO_SUCH;
        }
        // 4 oars / (beats + 1), cut, is no more than n as soon as 4 oars < (n + 1) (beats + 1).
        return 4 * now.gear(boat, 0) / (n + 1);
    }

    // Man by man.

    public int champion(int boat, int other) {
        if (!now.hasBoats(boat, other)) {
            return NO_SUCH;
        }
        int best = NONE;
        int fewest = MOST_MEN;
        for (int man = 0; man < now.men && now.men > 1; man++) {
            int outs = 0;
            for (int foe = 0; foe < now.men; foe++) {
                outs += firstFate(man, foe, boat, other) != UP ? 1 : 0;
            }
            if (outs < fewest) {
                fewest = outs;
                best = man;
            }
        }
        return best;
    }

    public int beaten(int man, int boat, int other) {
        if (!now.hasMan(man) || !now.hasBoats(boat, other)) {
            return NO_SUCH;
        }
        int many = 0;
        for (int foe = 0; foe < now.men; foe++) {
            many += firstFate(man, foe, boat, other) == OFF ? 1 : 0;
        }
        return many;
    }

    public int ring(int boat, int other) {
        if (!now.hasBoats(boat, other)) {
            return NO_SUCH;
        }
        for (int a = 0; a < now.men; a++) {
            for (int b = a + 1; b < now.men; b++) {
                int c = hasOut(a, b, boat, other) ? closesRing(a, b, boat, other) : NONE;
                if (c != NONE) {
                    return 100 * a + 10 * b + c;
                }
            }
        }
        return NONE;
    }

    public int margin(int man, int against, int boat, int other, int passes) {
        if (!within(passes, 0, MOST_PASSES) || !faces(man, against, boat, other)) {
            return NO_GAME;
        }
        return duel.one.thrust(duel.speed, passes)
                - duel.two.hold(duel.speed, passes, duel.one.aims);
    }

    public int feared(int man, int boat, int other) {
        if (!now.hasMan(man) || !now.hasBoats(boat, other)) {
            return NO_SUCH;
        }
        int worst = NONE;
        int most = 0;
        for (int foe = 0; foe < now.men; foe++) {
            if (faces(man, foe, boat, other) && duel.two.aims != EDGE) {
                int over = duel.two.thrust(duel.speed, 0)
                        - duel.one.hold(duel.speed, 0, duel.two.aims);
                if (worst == NONE || over > most) {
                    most = over;
                    worst = foe;
                }
            }
        }
        return worst;
    }

    public int weary(int man, int against, int boat, int other) {
        if (!faces(man, against, boat, other)) {
            return NO_SUCH;
        }
        int held = duel.two.hold(duel.speed, 0, duel.one.aims);
        for (int passes = 0; passes <= MOST_PASSES; passes++) {
            if (duel.one.thrust(duel.speed, passes) <= held) {
                return passes;
            }
        }
        return NONE;
    }

    public int part(int man, int against, int boat, int other) {
        if (!faces(man, against, boat, other)) {
            return NO_GAME;
        }
        duel.countSlips(duel.gap);
        int result = duel.resultOf(duel.kindOf(duel.gap), 0, 0);
        return duel.gain() - duel.allPairs() * Duel.gainBy(result);
    }

    // Draws.

    public int drawn(int seed, int man, int against, int boat, int other, int what) {
        if (!within(seed, 0, MOST_SEED) || !within(what, 0, 2)
                || !faces(man, against, boat, other)) {
            return NO_SUCH;
        }
        duel.drawFrom(seed);
        duel.runBout(0, 0);
        if (what == 0) {
            return duel.result;
        }
        return what == 1 ? lastPass() : duel.crashes;
    }

    public int years(int seed, int n, int man, int against, int boat, int other, int result) {
        if (!within(seed, 0, MOST_SEED) || !within(n, 1, 20)
                || !within(result, NOBODY, BOTH_OUT) || !faces(man, against, boat, other)) {
            return NO_SUCH;
        }
        int many = 0;
        for (int year = 0; year < n; year++) {
            duel.drawFrom(seed + year);
            duel.runBout(0, 0);
            many += duel.result == result ? 1 : 0;
        }
        return many;
    }

    public int day(int seed, int team, int other, int what) {
        if (!within(seed, 0, MOST_SEED) || !within(what, 0, 2) || !meets(team, other)) {
            return NO_SUCH;
        }
        duel.drawFrom(seed);
        contest.run();
        return contest.outcome(what);
    }

    // Counts, images, slots.

    public int count(int what) {
        switch (what) {
            case 0: return now.boats;
            case 1: return now.men;
            case 2: return now.teams;
            case 3: return now.stream;
            case 4: return now.gap;
            case 5: return now.passes;
            case 6: return now.from;
            case 7: return now.to;
            case 8: return now.errs;
            case 9: return now.lines;
            case 10: return tape.length();
            case 11: return shelf.rows();
            default: return NONE;
        }
    }

    public int image(int k) {
        if (!within(k, 0, images.length - 1)) {
            return NO_SUCH;
        }
        Harbour kept = images[k];
        if (kept == null) {
            kept = new Harbour();
            images[k] = kept;
        }
        kept.copyFrom(now);
        return 0;
    }

    public int back(int k) {
        if (!within(k, 0, images.length - 1)) {
            return NO_SUCH;
        }
        Harbour kept = images[k];
        if (kept == null) {
            return EMPTY;
        }
        now.copyFrom(kept);
        return 0;
    }

    public int row(int slot, int width, int n) {
        if (!Shelf.isSlot(slot) || !within(width, 0, 3) || n > Shelf.LONGEST) {
            return NO_SUCH;
        }
        if (n < 0) {
            return BELOW;
        }
        shelf.lay(slot, width, n);
        return 0;
    }

    public int write(int slot, int i, long v) {
        if (!Shelf.isSlot(slot)) {
            return NO_SUCH;
        }
        if (!shelf.hasRow(slot)) {
            return EMPTY;
        }
        if (!within(i, 0, shelf.size(slot) - 1)) {
            return BEYOND;
        }
        shelf.set(slot, i, v);
        return 0;
    }

    public int paste(int slot, int i, int to, int k, int n) {
        if (!Shelf.isSlot(slot) || !Shelf.isSlot(to)) {
            return NO_SUCH;
        }
        if (!shelf.hasRow(slot) || !shelf.hasRow(to)) {
            return EMPTY;
        }
        if (shelf.width(slot) != shelf.width(to)) {
            return UNLIKE;
        }
        if (n < 0 || !within(i, 0, shelf.size(slot) - n) || !within(k, 0, shelf.size(to) - n)) {
            return BEYOND;
        }
        shelf.copyOver(slot, i, to, k, n);
        return 0;
    }

    // What the calls share.

    private static boolean within(int n, int least, int most) {
        return n >= least && n <= most;
    }

    private static boolean isChoice(int n) {
        return within(n, 0, CHOICES - 1);
    }

    /** Whether two unlike MEN in two BOATS are told; if so, the duel is theirs. */
    private boolean faces(int man, int against, int boat, int other) {
        if (man == against || !now.hasMan(man) || !now.hasMan(against)
                || !now.hasBoats(boat, other)) {
            return false;
        }
        duel.place(now, boat, other);
        duel.one.load(now, man);
        duel.two.load(now, against);
        return true;
    }

    /** Whether two TEAMS can meet; if so, the contest is theirs. */
    private boolean meets(int team, int other) {
        if (team == other || !now.hasTeam(team) || !now.hasTeam(other)) {
            return false;
        }
        for (int i = 0; i < now.sizeOf(team); i++) {
            if (now.isMate(other, now.mate(team, i))) {
                return false;
            }
        }
        contest.lineUp(team, other);
        return true;
    }

    private int lastPass() {
        return duel.result == NOBODY ? NONE : duel.took - 1;
    }

    private static int ordersOf(int men) {
        int orders = 1;
        for (int i = 2; i <= men; i++) {
            orders *= i;
        }
        return orders;
    }

    /** What becomes of a MAN in a first pass at the gap told; against himself nothing does. */
    private int firstFate(int man, int foe, int boat, int other) {
        return faces(man, foe, boat, other) ? duel.fateOfOne(duel.kindOf(duel.gap), 0, 0) : UP;
    }

    private boolean hasOut(int man, int foe, int boat, int other) {
        return faces(man, foe, boat, other)
                && duel.resultOf(duel.kindOf(duel.gap), 0, 0) == SECOND_OUT;
    }

    private int closesRing(int a, int b, int boat, int other) {
        for (int c = a + 1; c < now.men; c++) {
            if (hasOut(b, c, boat, other) && hasOut(c, a, boat, other)) {
                return c;
            }
        }
        return NONE;
    }

    /** The ways, alike likely, in which it is the edge and k of n judges tell so. */
    private long edgeWays(int k, int n) {
        return now.menWhoAim(EDGE) * power(100 - now.errs, k) * power(now.errs, n - k);
    }

    private long otherWays(int k, int n) {
        return (now.men - now.menWhoAim(EDGE)) * power(now.errs, k) * power(100 - now.errs, n - k);
    }

    private static long power(int base, int times) {
        long product = 1;
        for (int i = 0; i < times; i++) {
            product *= base;
        }
        return product;
    }

    /** One side of a FRACTION in lowest terms: above (what 0), below (what 1). */
    private static long lowest(long above, long below, int what) {
        long divisor = above;
        long rest = below;
        // Each two steps halve the rest, so that 200 are more than a long can need.
        for (int i = 0; i < 200 && rest != 0; i++) {
            long next = divisor % rest;
            divisor = rest;
            rest = next;
        }
        if (divisor == 0) {
            return what;
        }
        return (what == 0 ? above : below) / divisor;
    }

    /** 0, or what is answered of a SLOT whose row is not one of pictures. */
    private int pictureFault(int slot) {
        if (!Shelf.isSlot(slot) || now.boats < 2) {
            return NO_SUCH;
        }
        if (!shelf.hasRow(slot)) {
            return EMPTY;
        }
        if (shelf.size(slot) % 3 != 0) {
            return NO_SUCH;
        }
        for (int i = 0; i < shelf.size(slot); i += 3) {
            long man = shelf.at(slot, i);
            long foe = shelf.at(slot, i + 1);
            long result = shelf.at(slot, i + 2);
            if (man < 0 || man >= now.men || foe < 0 || foe >= now.men
                    || result < NOBODY || result > BOTH_OUT || man == foe) {
                return NO_SUCH;
            }
        }
        return 0;
    }

    /** The duel is that of the picture whose numbers begin at i. */
    private void showPicture(int slot, int i) {
        faces((int) shelf.at(slot, i), (int) shelf.at(slot, i + 1), 0, 1);
    }

    private int gapBits(int slot) {
        int bits = (1 << (MOST_GAP + 1)) - 1;
        for (int i = 0; i + 2 < shelf.size(slot); i += 3) {
            showPicture(slot, i);
            for (int gap = 0; gap <= MOST_GAP; gap++) {
                if (duel.resultOf(duel.kindOf(gap), 0, 0) != shelf.at(slot, i + 2)) {
                    bits &= ~(1 << gap);
                }
            }
        }
        return bits;
    }

    private boolean isSure(int slot, int i, int fate, int bits) {
        showPicture(slot, i);
        for (int gap = 0; gap <= MOST_GAP; gap++) {
            boolean open = (bits >> gap & 1) == 1;
            if (open && duel.fateOfOne(duel.kindOf(gap), 0, 0) != fate) {
                return false;
            }
        }
        return true;
    }

    /** A row of numbers of a fixed length: places outside it read 0 and take nothing. */
    private static final class Row {
        private final int[] cells;

        Row(int length) {
            cells = new int[length < 0 ? 0 : length];
        }

        int at(int i) {
            return i >= 0 && i < cells.length ? cells[i] : 0;
        }

        void set(int i, int v) {
            if (i >= 0 && i < cells.length) {
                cells[i] = v;
            }
        }

        void fill(int v) {
            for (int i = 0; i < cells.length; i++) {
                cells[i] = v;
            }
        }

        void copyFrom(Row other) {
            for (int i = 0; i < cells.length; i++) {
                cells[i] = other.at(i);
            }
        }
    }

    /** The TAPE. */
    private static final class Tape {
        private static final int LONGEST = 1200;
        private static final int FED = 20;

        private final byte[] bytes = new byte[LONGEST];
        private int used = 0;

        int length() {
            return used;
        }

        boolean isFull() {
            return used + FED > LONGEST;
        }

        void cut(int n) {
            used = n;
        }

        int at(int i) {
            return i >= 0 && i < used && i < bytes.length ? bytes[i] : NONE;
        }

        /** Four bytes come behind, the highest first. */
        void put(int word) {
            for (int shift = 24; shift >= 0; shift -= 8) {
                if (used >= 0 && used < bytes.length) {
                    bytes[used] = (byte) (word >> shift);
                    used++;
                }
            }
        }
    }

    /** All that a text tells; without a HARBOUR it has no LINES and is 0 throughout. */
    private static final class Harbour {
        private static final int GEAR = 2;
        private static final int CREW = 2 + MOST_CREW;

        int lines;
        int stream;
        int gap;
        int passes;
        int from;
        int to;
        int errs;
        int boats;
        int men;
        int teams;
        private final Row gears = new Row(MOST_BOATS * GEAR);
        private final Row traits = new Row(MOST_MEN * TRAITS);
        // Of each TEAM its BOAT, how many MEN, and these.
        private final Row crews = new Row(MOST_TEAMS * CREW);

        void clear() {
            lines = 0;
            stream = 0;
            gap = 0;
            passes = 0;
            from = 0;
            to = 0;
            errs = 0;
            boats = 0;
            men = 0;
            teams = 0;
            gears.fill(0);
            traits.fill(0);
            crews.fill(0);
        }

        void copyFrom(Harbour other) {
            lines = other.lines;
            stream = other.stream;
            gap = other.gap;
            passes = other.passes;
            from = other.from;
            to = other.to;
            errs = other.errs;
            boats = other.boats;
            men = other.men;
            teams = other.teams;
            gears.copyFrom(other.gears);
            traits.copyFrom(other.traits);
            crews.copyFrom(other.crews);
        }

        boolean hasBoat(int boat) {
            return boat >= 0 && boat < boats;
        }

        boolean hasBoats(int boat, int other) {
            return hasBoat(boat) && hasBoat(other);
        }

        boolean hasMan(int man) {
            return man >= 0 && man < men;
        }

        boolean hasTeam(int team) {
            return team >= 0 && team < teams;
        }

        int gear(int boat, int what) {
            return gears.at(boat * GEAR + what);
        }

        void setGear(int boat, int what, int n) {
            gears.set(boat * GEAR + what, n);
        }

        static boolean gearFits(int what, int n) {
            return what == 0 ? within(n, LEAST_OARS, MOST_OARS) : within(n, 0, MOST_SLIP);
        }

        int trait(int man, int what) {
            return traits.at(man * TRAITS + what);
        }

        void setTrait(int man, int what, int n) {
            traits.set(man * TRAITS + what, n);
        }

        static int leastTrait(int what) {
            return what == WEIGHT ? LEAST_WEIGHT : 0;
        }

        static int mostTrait(int what) {
            switch (what) {
                case WEIGHT: return MOST_WEIGHT;
                case SKILL: return 30;
                case QUICK: return 30;
                case TIRES: return 9;
                case LEANS: return 4;
                default: return EDGE;
            }
        }

        static boolean traitFits(int what, int n) {
            return within(n, leastTrait(what), mostTrait(what));
        }

        int menWhoAim(int aim) {
            int many = 0;
            for (int man = 0; man < men; man++) {
                many += trait(man, AIMS) == aim ? 1 : 0;
            }
            return many;
        }

        int boatOf(int team) {
            return crews.at(team * CREW);
        }

        void setBoatOf(int team, int boat) {
            crews.set(team * CREW, boat);
        }

        int sizeOf(int team) {
            return crews.at(team * CREW + 1);
        }

        int mate(int team, int i) {
            return crews.at(team * CREW + 2 + i);
        }

        void setMate(int team, int i, int man) {
            crews.set(team * CREW + 2 + i, man);
        }

        void addMate(int team, int man) {
            int size = sizeOf(team);
            setMate(team, size, man);
            crews.set(team * CREW + 1, size + 1);
        }

        boolean isMate(int team, int man) {
            for (int i = 0; i < sizeOf(team); i++) {
                if (mate(team, i) == man) {
                    return true;
                }
            }
            return false;
        }

        int speedOf(int boat, int other) {
            return speedWith(boat, gears.at(boat * GEAR), other);
        }

        /** SPEED if a BOAT had so many oars; as one BOAT twice it has them twice. */
        int speedWith(int boat, int oars, int other) {
            int together = oars + (other == boat ? oars : gears.at(other * GEAR));
            return together > stream ? together - stream : 0;
        }
    }

    /** Reads the TAPE, LINE by LINE, into a draft, up to the first FAULT. */
    private static final class Reader {
        private static final int END = 0;
        private static final int WORD = 1;
        private static final int NUMBER = 2;
        private static final int SIGN = 3;
        private static final int NO_TOKEN = 4;
        private static final int MUCH = 100000;

        private final Tape tape;
        private final Harbour draft;
        private int at = 0;
        private int kind = END;
        private int start = 0;
        private int value = 0;
        int fault = 0;
        int place = NONE;

        Reader(Tape tape, Harbour draft) {
            this.tape = tape;
            this.draft = draft;
        }

        boolean reads() {
            draft.clear();
            fault = 0;
            place = NONE;
            at = 0;
            nextToken();
            for (int i = 0; i < Tape.LONGEST && kind != END && fault == 0; i++) {
                readLine();
            }
            return fault == 0;
        }

        private void readLine() {
            if (draft.lines == 0) {
                readHarbour();
            } else if (isWord("reach")) {
                readReach();
            } else if (isWord("boat")) {
                readBoat();
            } else if (isWord("man")) {
                readMan();
            } else if (isWord("team")) {
                readTeam();
            } else if (isWord("errs")) {
                nextToken();
                draft.errs = number(0, MOST_ERRS);
            } else {
                fail(1);
            }
            sign();
            draft.lines++;
        }

        private void readHarbour() {
            word("harbour");
            word("stream");
            draft.stream = number(0, MOST_STREAM);
            word("gap");
            draft.gap = number(0, MOST_STEERED);
            word("passes");
            draft.passes = number(1, MOST_BOUT);
            draft.from = 2;
            draft.to = 4;
        }

        private void readReach() {
            nextToken();
            draft.from = number(0, MOST_STEERED);
            word("to");
            draft.to = number(draft.from, MOST_STEERED);
        }

        private void readBoat() {
            if (draft.boats == MOST_BOATS) {
                fail(3);
                return;
            }
            nextToken();
            word("oars");
            draft.setGear(draft.boats, 0, number(LEAST_OARS, MOST_OARS));
            word("slip");
            draft.setGear(draft.boats, 1, number(0, MOST_SLIP));
            draft.boats++;
        }

        private void readMan() {
            if (draft.men == MOST_MEN) {
                fail(3);
                return;
            }
            nextToken();
            readTrait("weight", WEIGHT);
            readTrait("skill", SKILL);
            readTrait("quick", QUICK);
            readTrait("tires", TIRES);
            readTrait("leans", LEANS);
            word("aims");
            draft.setTrait(draft.men, AIMS, aim());
            draft.men++;
        }

        private void readTrait(String name, int what) {
            word(name);
            draft.setTrait(draft.men, what,
                    number(Harbour.leastTrait(what), Harbour.mostTrait(what)));
        }

        private int aim() {
            int aim = MIDDLE;
            if (isWord("corner")) {
                aim = CORNER;
            } else if (isWord("edge")) {
                aim = EDGE;
            } else if (!isWord("middle")) {
                fail(1);
            }
            nextToken();
            return aim;
        }

        private void readTeam() {
            if (draft.teams == MOST_TEAMS) {
                fail(3);
                return;
            }
            nextToken();
            draft.setBoatOf(draft.teams, number(0, draft.boats - 1));
            readMate();
            for (int i = 0; i < Tape.LONGEST && kind == NUMBER && fault == 0; i++) {
                readMate();
            }
            draft.teams++;
        }

        private void readMate() {
            boolean twice = kind == NUMBER && draft.isMate(draft.teams, value);
            if (twice) {
                fail(2);
            }
            boolean tooMany = draft.sizeOf(draft.teams) == MOST_CREW;
            if (tooMany && kind == NUMBER && draft.hasMan(value)) {
                fail(3);
            }
            int man = number(0, draft.men - 1);
            if (fault == 0) {
                draft.addMate(draft.teams, man);
            }
        }

        /** The first FAULT stays: nothing is read behind it. */
        private void fail(int what) {
            if (fault == 0) {
                fault = what;
                place = start;
            }
        }

        private void word(String name) {
            if (!isWord(name)) {
                fail(1);
            }
            nextToken();
        }

        private void sign() {
            if (kind != SIGN) {
                fail(1);
            }
            nextToken();
        }

        private int number(int least, int most) {
            if (kind != NUMBER) {
                fail(1);
            } else if (!within(value, least, most)) {
                fail(2);
            }
            int read = value;
            nextToken();
            return fault == 0 ? read : 0;
        }

        private boolean isWord(String name) {
            if (kind != WORD || at - start != name.length()) {
                return false;
            }
            for (int i = 0; i < name.length(); i++) {
                if (tape.at(start + i) != name.charAt(i)) {
                    return false;
                }
            }
            return true;
        }

        /** The longest TOKEN; behind a FAULT none is taken. */
        private void nextToken() {
            if (fault != 0) {
                return;
            }
            while (at < tape.length() && isBlank(tape.at(at))) {
                at++;
            }
            start = at;
            value = 0;
            if (at >= tape.length()) {
                kind = END;
            } else if (isLetter(tape.at(at))) {
                kind = WORD;
                while (at < tape.length() && isLetter(tape.at(at))) {
                    at++;
                }
            } else if (isDigit(tape.at(at))) {
                kind = NUMBER;
                while (at < tape.length() && isDigit(tape.at(at))) {
                    // Kept small: a number beyond all bounds need not be known.
                    value = Math.min(MUCH, 10 * value + tape.at(at) - '0');
                    at++;
                }
            } else {
                kind = tape.at(at) == ';' ? SIGN : NO_TOKEN;
                at++;
            }
        }

        private static boolean isBlank(int sign) {
            return sign == ' ' || sign == '\n';
        }

        private static boolean isLetter(int sign) {
            return sign >= 'a' && sign <= 'z';
        }

        private static boolean isDigit(int sign) {
            return sign >= '0' && sign <= '9';
        }
    }

    /** Who stands on a ladder: a MAN as told, or as he might be. */
    private static final class Fighter {
        int weight;
        int skill;
        int quick;
        int tires;
        int leans;
        int aims;

        void load(Harbour harbour, int man) {
            weight = harbour.trait(man, WEIGHT);
            skill = harbour.trait(man, SKILL);
            quick = harbour.trait(man, QUICK);
            tires = harbour.trait(man, TIRES);
            leans = harbour.trait(man, LEANS);
            aims = harbour.trait(man, AIMS);
        }

        void choose(int choice) {
            leans = choice / 2;
            aims = choice % 2 == 0 ? MIDDLE : CORNER;
        }

        /** FORCE. */
        int thrust(int speed, int had) {
            int byAim = aims == MIDDLE ? 4 : aims == CORNER ? 2 : 0;
            int force = quick + speed + leans + byAim - tires * had;
            return force > 0 ? force : 0;
        }

        /** How he STANDS. */
        int hold(int speed, int had, int foeAims) {
            int offBalance = leans > 2 ? leans - 2 : 2 - leans;
            int held = skill + weight / 10 - speed / 2 - tires * had / 2 - 2 * offBalance
                    - (foeAims == CORNER ? 3 : 0);
            return held > 0 ? held : 0;
        }
    }

    /** DRAWS. */
    private static final class Draws {
        private long x = 0;

        void start(int seed) {
            x = seed;
        }

        int slip(int most) {
            int ways = 2 * most + 1;
            x = (1103515245L * x + 12345L) & 2147483647L;
            return ways > 0 ? (int) (x / 65536L % ways) - most : 0;
        }
    }

    /** Two on their ladders, in two BOATS. */
    private static final class Duel {
        final Fighter one = new Fighter();
        final Fighter two = new Fighter();
        // How many pairs of slips make a CRASH, a TOUCH, WIDE.
        final Row pairs = new Row(3);
        private final Draws draws = new Draws();
        private boolean drawing = false;
        private int slipOne;
        private int slipTwo;
        private int from;
        private int to;
        int speed;
        int gap;
        int limit;
        // Of the latest BOUT.
        int result;
        int took;
        int crashes;

        void place(Harbour harbour, int boat, int other) {
            speed = harbour.speedOf(boat, other);
            slipOne = harbour.gear(boat, 1);
            slipTwo = harbour.gear(other, 1);
            from = harbour.from;
            to = harbour.to;
            gap = harbour.gap;
            limit = harbour.passes;
            drawing = false;
        }

        void drawFrom(int seed) {
            draws.start(seed);
            drawing = true;
        }

        int kindOf(int comesTo) {
            if (comesTo < from) {
                return CRASH;
            }
            return comesTo > to ? WIDE : TOUCH;
        }

        private int fateOf(int kind, Fighter me, int had, Fighter foe, int foeHad) {
            if (kind == CRASH) {
                return UP;
            }
            if (kind == WIDE) {
                return me.leans == 4 ? FELL : UP;
            }
            if (me.aims == EDGE) {
                return FOUL;
            }
            if (foe.aims == EDGE) {
                return UP;
            }
            return foe.thrust(speed, foeHad) > me.hold(speed, had, foe.aims) ? OFF : UP;
        }

        int fateOfOne(int kind, int hadOne, int hadTwo) {
            return fateOf(kind, one, hadOne, two, hadTwo);
        }

        /** RESULT of a PASS. */
        int resultOf(int kind, int hadOne, int hadTwo) {
            int first = fateOf(kind, one, hadOne, two, hadTwo) == UP ? 0 : FIRST_OUT;
            int second = fateOf(kind, two, hadTwo, one, hadOne) == UP ? 0 : SECOND_OUT;
            return first + second;
        }

        /** BOUT of two who have had so many passes. */
        void runBout(int hadOne, int hadTwo) {
            result = NOBODY;
            took = 0;
            crashes = 0;
            while (took < limit && result == NOBODY) {
                int kind = kindOf(drawing ? drawnGap() : gap);
                crashes += kind == CRASH ? 1 : 0;
                result = resultOf(kind, hadOne + took, hadTwo + took);
                took++;
            }
        }

        private int drawnGap() {
            int first = draws.slip(slipOne);
            int second = draws.slip(slipTwo);
            return gap + first - second;
        }

        int allPairs() {
            return (2 * slipOne + 1) * (2 * slipTwo + 1);
        }

        void countSlips(int steered) {
            pairs.fill(0);
            for (int first = -slipOne; first <= slipOne; first++) {
                for (int second = -slipTwo; second <= slipTwo; second++) {
                    int kind = kindOf(steered + first - second);
                    pairs.set(kind, pairs.at(kind) + 1);
                }
            }
        }

        /** How many of the pairs counted have a RESULT, both with so many passes. */
        int pairsOf(int wanted, int had) {
            int many = 0;
            for (int kind = CRASH; kind <= WIDE; kind++) {
                many += resultOf(kind, had, had) == wanted ? pairs.at(kind) : 0;
            }
            return many;
        }

        static int gainBy(int result) {
            return result == SECOND_OUT ? 1 : result == FIRST_OUT ? -1 : 0;
        }

        /** The first one's GAIN in a first pass, in the slips counted. */
        int gain() {
            int sum = 0;
            for (int kind = CRASH; kind <= WIDE; kind++) {
                sum += gainBy(resultOf(kind, 0, 0)) * pairs.at(kind);
            }
            return sum;
        }
    }

    /** GAME. */
    private static final class Grid {
        private final Row gains = new Row(CHOICES * CHOICES);

        void fillFrom(Duel duel) {
            duel.countSlips(duel.gap);
            for (int choice = 0; choice < CHOICES; choice++) {
                duel.one.choose(choice);
                for (int answer = 0; answer < CHOICES; answer++) {
                    duel.two.choose(answer);
                    gains.set(choice * CHOICES + answer, duel.gain());
                }
            }
        }

        int at(int choice, int answer) {
            return gains.at(choice * CHOICES + answer);
        }

        int worstReply(int choice) {
            int worst = 0;
            for (int answer = 1; answer < CHOICES; answer++) {
                worst = at(choice, answer) < at(choice, worst) ? answer : worst;
            }
            return worst;
        }

        int bestChoice(int answer) {
            int best = 0;
            for (int choice = 1; choice < CHOICES; choice++) {
                best = at(choice, answer) > at(best, answer) ? choice : best;
            }
            return best;
        }

        int safeChoice() {
            int safest = 0;
            for (int choice = 1; choice < CHOICES; choice++) {
                int least = at(choice, worstReply(choice));
                safest = least > at(safest, worstReply(safest)) ? choice : safest;
            }
            return safest;
        }

        int safeReply() {
            int safest = 0;
            for (int answer = 1; answer < CHOICES; answer++) {
                int most = at(bestChoice(answer), answer);
                safest = most < at(bestChoice(safest), safest) ? answer : safest;
            }
            return safest;
        }

        boolean isRest(int choice, int answer) {
            return at(choice, answer) == at(bestChoice(answer), answer)
                    && at(choice, answer) == at(choice, worstReply(choice));
        }

        boolean isVain(int choice) {
            for (int better = 0; better < CHOICES; better++) {
                if (isBeatenBy(choice, better)) {
                    return true;
                }
            }
            return false;
        }

        private boolean isBeatenBy(int choice, int better) {
            boolean worse = false;
            for (int answer = 0; answer < CHOICES; answer++) {
                if (at(choice, answer) > at(better, answer)) {
                    return false;
                }
                worse = worse || at(choice, answer) < at(better, answer);
            }
            return worse;
        }
    }

    /** MATCH of two TEAMS, in this order or another. */
    private static final class Contest {
        // One BOUT takes one MAN away at least, and the last of a TEAM is not met again.
        private static final int MOST_BOUTS = 2 * MOST_CREW;
        private static final int LOGGED = 4;
        private static final int MOST_ORDERS = 120;
        // Each BOUT and each coming of a MAN is a level of its own.
        private static final int DEEPEST = 20;

        private final Harbour harbour;
        private final Duel duel;
        private final Row firsts = new Row(MOST_CREW);
        private final Row seconds = new Row(MOST_CREW);
        private final Row log = new Row(MOST_BOUTS * LOGGED);
        private int sizeOne;
        private int sizeTwo;
        private int leftOne;
        private int leftTwo;
        final Row had = new Row(MOST_MEN);
        final Row found = new Row(MOST_CREW);
        int bouts;

        Contest(Harbour harbour, Duel duel) {
            this.harbour = harbour;
            this.duel = duel;
        }

        void lineUp(int team, int other) {
            duel.place(harbour, harbour.boatOf(team), harbour.boatOf(other));
            sizeOne = harbour.sizeOf(team);
            sizeTwo = harbour.sizeOf(other);
            for (int i = 0; i < MOST_CREW; i++) {
                firsts.set(i, harbour.mate(team, i));
                seconds.set(i, harbour.mate(other, i));
            }
        }

        void leaveOut(int place) {
            sizeOne--;
            for (int i = place; i < sizeOne; i++) {
                firsts.set(i, firsts.at(i + 1));
            }
        }

        void run() {
            had.fill(0);
            bouts = 0;
            int i = 0;
            int k = 0;
            while (i < sizeOne && k < sizeTwo && bouts < MOST_BOUTS) {
                int man = firsts.at(i);
                int foe = seconds.at(k);
                fight(man, had.at(man), foe, had.at(foe));
                note(man, foe);
                i += duel.result == SECOND_OUT ? 0 : 1;
                k += duel.result == FIRST_OUT ? 0 : 1;
            }
            leftOne = sizeOne - i;
            leftTwo = sizeTwo - k;
        }

        private void fight(int man, int hadMan, int foe, int hadFoe) {
            duel.one.load(harbour, man);
            duel.two.load(harbour, foe);
            duel.runBout(hadMan, hadFoe);
        }

        private void note(int man, int foe) {
            had.set(man, had.at(man) + duel.took);
            had.set(foe, had.at(foe) + duel.took);
            log.set(bouts * LOGGED, man);
            log.set(bouts * LOGGED + 1, foe);
            log.set(bouts * LOGGED + 2, duel.result);
            log.set(bouts * LOGGED + 3, duel.took);
            bouts++;
        }

        int logged(int i, int what) {
            return log.at(i * LOGGED + what);
        }

        /** MEN that the first TEAM has left, or, below 0, the second one; 0: neither wins. */
        int score() {
            return leftOne - leftTwo;
        }

        int outcome(int what) {
            if (what == 0) {
                return score() > 0 ? 0 : score() < 0 ? 1 : 2;
            }
            return what == 1 ? Math.abs(score()) : bouts;
        }

        int winningOrders() {
            int many = 0;
            boolean more = true;
            sortFirsts();
            for (int i = 0; i < MOST_ORDERS && more; i++) {
                run();
                many += score() > 0 ? 1 : 0;
                more = nextOrder();
            }
            return many;
        }

        void findBest() {
            int best = -MOST_CREW - 1;
            boolean more = true;
            sortFirsts();
            for (int i = 0; i < MOST_ORDERS && more; i++) {
                run();
                if (score() > best) {
                    best = score();
                    found.copyFrom(firsts);
                }
                more = nextOrder();
            }
        }

        int findBold() {
            int most = -1;
            boolean more = true;
            sortFirsts();
            for (int i = 0; i < MOST_ORDERS && more; i++) {
                int many = beatenOrders(0, 0, (1 << sizeTwo) - 1, NONE, 0, 0);
                if (many > most) {
                    most = many;
                    found.copyFrom(firsts);
                }
                more = nextOrder();
            }
            return most;
        }

        /**
         * How many orders of those of the second TEAM who are to come (as bits) lose, if the first
         * TEAM's MAN i is up and so is a foe (NONE: the next one comes): orders that begin alike
         * are played together.
         */
        private int beatenOrders(int i, int hadMan, int toCome, int foe, int hadFoe, int depth) {
            if (i >= sizeOne || depth > DEEPEST) {
                return 0;
            }
            if (foe == NONE) {
                return toCome == 0 ? 1 : beatenByComing(i, hadMan, toCome, depth);
            }
            fight(firsts.at(i), hadMan, foe, hadFoe);
            int took = duel.took;
            if (duel.result == FIRST_OUT) {
                return beatenOrders(i + 1, 0, toCome, foe, hadFoe + took, depth + 1);
            }
            if (duel.result == SECOND_OUT) {
                return beatenOrders(i, hadMan + took, toCome, NONE, 0, depth + 1);
            }
            return beatenOrders(i + 1, 0, toCome, NONE, 0, depth + 1);
        }

        private int beatenByComing(int i, int hadMan, int toCome, int depth) {
            int many = 0;
            for (int k = 0; k < sizeTwo; k++) {
                if ((toCome >> k & 1) == 1) {
                    int others = toCome & ~(1 << k);
                    many += beatenOrders(i, hadMan, others, seconds.at(k), 0, depth + 1);
                }
            }
            return many;
        }

        private void sortFirsts() {
            for (int i = 1; i < sizeOne; i++) {
                for (int k = i; k > 0 && firsts.at(k - 1) > firsts.at(k); k--) {
                    exchange(k - 1, k);
                }
            }
        }

        private void exchange(int i, int k) {
            int kept = firsts.at(i);
            firsts.set(i, firsts.at(k));
            firsts.set(k, kept);
        }

        /** The first TEAM takes the next greater row of MEN: false if there is none. */
        private boolean nextOrder() {
            int i = sizeOne - 2;
            while (i >= 0 && firsts.at(i) > firsts.at(i + 1)) {
                i--;
            }
            if (i < 0) {
                return false;
            }
            int k = sizeOne - 1;
            while (k > i && firsts.at(k) < firsts.at(i)) {
                k--;
            }
            exchange(i, k);
            for (int low = i + 1, high = sizeOne - 1; low < high; low++, high--) {
                exchange(low, high);
            }
            return true;
        }
    }

    /** SLOTS. */
    private static final class Shelf {
        static final int LONGEST = 60;
        private static final int SLOTS = 4;

        private final long[] cells = new long[SLOTS * LONGEST];
        private final Row widths = new Row(SLOTS);
        private final Row sizes = new Row(SLOTS);

        Shelf() {
            sizes.fill(NONE);
        }

        static boolean isSlot(int slot) {
            return slot >= 0 && slot < SLOTS;
        }

        boolean hasRow(int slot) {
            return isSlot(slot) && sizes.at(slot) != NONE;
        }

        int size(int slot) {
            return sizes.at(slot);
        }

        int width(int slot) {
            return widths.at(slot);
        }

        int rows() {
            int many = 0;
            for (int slot = 0; slot < SLOTS; slot++) {
                many += hasRow(slot) ? 1 : 0;
            }
            return many;
        }

        void lay(int slot, int width, int n) {
            widths.set(slot, width);
            sizes.set(slot, n);
            for (int i = 0; i < n; i++) {
                set(slot, i, 0);
            }
        }

        private static boolean isPlace(int slot, int i) {
            return isSlot(slot) && i >= 0 && i < LONGEST;
        }

        long at(int slot, int i) {
            return isPlace(slot, i) ? cells[slot * LONGEST + i] : 0;
        }

        void set(int slot, int i, long v) {
            if (isPlace(slot, i)) {
                cells[slot * LONGEST + i] = cutTo(width(slot), v);
            }
        }

        private static long cutTo(int width, long v) {
            switch (width) {
                case 0: return (byte) v;
                case 1: return (short) v;
                case 2: return (int) v;
                default: return v;
            }
        }

        /** Backwards where the places overlap upwards, so that each is read ahead of its change. */
        void copyOver(int slot, int i, int to, int k, int n) {
            boolean backwards = slot == to && k > i;
            for (int step = 0; step < n; step++) {
                int offset = backwards ? n - 1 - step : step;
                set(to, k + offset, at(slot, i + offset));
            }
        }
    }
}
