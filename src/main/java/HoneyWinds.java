import java.util.Arrays;

/** Honey that winds: stuffs, laws of how quickly it winds and which form it lays, runs, films, acts. */
public final class HoneyWinds {
    public static final int NONE = -1, BAD = -2, STATE = -3, FULL = -4;

    private static final int ABSENT = -5, OTHER_KIND = -6, NO_FAULT_YET = -10;
    private static final int STUFF_LIMIT = 5, LAW_LIMIT = 8, TAPE_LIMIT = 120, TICK_LIMIT = 20;
    private static final int ROW_LIMIT = 8, FILM_LIMIT = 12, TRACE_LIMIT = 20, CLAUSE_LIMIT = 10, OPEN_LIMIT = 5;
    private static final int HEIGHT_LIMIT = 60, FLOW_LIMIT = 20, PACES = 100, TURNS_LIMIT = 999;
    private static final int STIFF_LIMIT = 20, COOLED_LIMIT = 99, FORM_LIMIT = 4, KIND_LIMIT = 6, BEAR_LIMIT = 20;
    private static final int ONE_HEIGHT = 10000, ONE_FLOW = 100;
    private static final int OUT_OF_REACH = 1000000;

    // What an instruction of a law's code does (its three lowest bits).
    private static final int TEST = 0, NOT = 1, AND = 2, OR = 3, WIND = 4, EASE = 5;
    // What a test is about (bits 3 to 5), and its sign (bits 6 and 7); its number stands above.
    private static final int ABOUT_HEIGHT = 0, ABOUT_FLOW = 1, ABOUT_PACE = 2, ABOUT_STIFF = 3, ABOUT_WEIGHT = 4;
    private static final int LESS = 0, SAME = 1, MORE = 2;

    private final State now = new State();
    private final State kept = new State();
    private boolean imageTaken = false;
    private final Reader reader = new Reader();
    private final Trace trace = new Trace();
    private final int[] runForms = new int[TICK_LIMIT];
    private final int[] runTurns = new int[TICK_LIMIT];
    private final int[] runHeaps = new int[TICK_LIMIT];
    private final int[] upward = new int[HEIGHT_LIMIT + 1];
    private final int[] downward = new int[HEIGHT_LIMIT + 1];
    private final int[] paceTurns = new int[PACES];
    private final int[] paceForms = new int[PACES];
    private final int[][] rowCosts = new int[ROW_LIMIT][PACES];

    public HoneyWinds() {
    }

    // ---- stuffs, laws

    public int stuff(int stiff, int weight) {
        if (!isWithin(stiff, 1, STIFF_LIMIT) || !isWithin(weight, 1, STIFF_LIMIT)) {
            return BAD;
        }
        if (now.stuffCount >= STUFF_LIMIT) {
            return FULL;
        }
        now.stuffs[now.stuffCount] = new Stuff(stiff, weight);
        return now.stuffCount++;
    }

    public int of(int stuff, int what) {
        Stuff s = stuffAt(stuff);
        if (s == null || !isWithin(what, 0, 1)) {
            return NONE;
        }
        return what == 0 ? s.stiff : s.weight;
    }

    public int feed(long w, int n) {
        if (!isWithin(n, 1, 8)) {
            return BAD;
        }
        if (now.tapeSize + n > TAPE_LIMIT) {
            return FULL;
        }
        for (int i = n - 1; i >= 0; i--) {
            now.tape[now.tapeSize] = (int) (w >>> (8 * i)) & 255;
            now.tapeSize++;
        }
        return now.tapeSize;
    }

    public int law(int kind, int v) {
        if (!isWithin(kind, 0, KIND_LIMIT)) {
            return NONE;
        }
        if (!isWithin(v, 1, 9)) {
            return BAD;
        }
        if (now.lawCount >= LAW_LIMIT) {
            return FULL;
        }
        int size = now.tapeSize;
        now.tapeSize = 0;
        if (!reader.isLaw(now.tape, size)) {
            return NO_FAULT_YET - reader.place;
        }
        now.laws[now.lawCount] = lawOfKind(kind, now.lawCount, v);
        return now.lawCount++;
    }

    public int told(int law, int what) {
        Laying l = lawAt(law);
        if (l == null) {
            return NONE;
        }
        if (isWithin(what, 11, 10 + FORM_LIMIT)) {
            return l.forms[what - 11];
        }
        switch (what) {
            case 0: return l.kind;
            case 1: return l.v;
            case 2: return l.heap;
            case 3: return l.cool;
            default: return NONE;
        }
    }

    public int winds(int law, int stuff, int doing, int what) {
        Laying l = lawAt(law);
        Stuff s = stuffAt(stuff);
        if (l == null || s == null || !isWithin(what, 0, 2)) {
            return NONE;
        }
        if (!isDoing(doing)) {
            return BAD;
        }
        if (what == 0) {
            return l.baseIn(s, doing);
        }
        return what == 1 ? turnsIn(l, s, doing) : formIn(l, s, doing);
    }

    // ---- runs, curves

    public int tick(int doing) {
        if (doing == -1) {
            now.tickCount = 0;
            return 0;
        }
        if (!isDoing(doing)) {
            return BAD;
        }
        if (now.tickCount >= TICK_LIMIT) {
            return FULL;
        }
        now.ticks[now.tickCount] = doing;
        now.tickCount++;
        return now.tickCount;
    }

    public int run(int law, int stuff, int what) {
        Laying l = lawAt(law);
        Stuff s = stuffAt(stuff);
        if (l == null || s == null || !isToldOfRun(what)) {
            return NONE;
        }
        int topples = goThroughRun(l, s);
        int t = what % 100;
        switch (what / 100) {
            case 1: return runForms[t];
            case 2: return runTurns[t];
            case 3: return runHeaps[t];
            default: break;
        }
        if (what == 0) {
            return topples;
        }
        return what == 1 ? allRunTurns() : runFormChanges();
    }

    public int curve(int law, int stuff, int flow, int height, boolean up) {
        Laying l = lawAt(law);
        Stuff s = stuffAt(stuff);
        if (l == null || s == null) {
            return NONE;
        }
        if (!isFlow(flow) || !isHeight(height)) {
            return BAD;
        }
        if (up) {
            goUp(l, s, flow);
            return upward[height];
        }
        goDown(l, s, flow);
        return downward[height];
    }

    public int jumps(int law, int stuff, int flow, int n, int what) {
        Laying l = lawAt(law);
        Stuff s = stuffAt(stuff);
        if (l == null || s == null || !isWithin(what, 0, 1)) {
            return NONE;
        }
        if (!isFlow(flow) || !isWithin(n, 1, 99)) {
            return BAD;
        }
        goUp(l, s, flow);
        int many = 0;
        int first = ABSENT;
        for (int h = 2; h <= HEIGHT_LIMIT; h++) {
            if (Math.abs(upward[h] - upward[h - 1]) >= n) {
                many++;
                first = many == 1 ? h : first;
            }
        }
        return what == 0 ? many : first;
    }

    public int several(int law, int stuff, int flow, int what) {
        Laying l = lawAt(law);
        Stuff s = stuffAt(stuff);
        if (l == null || s == null || !isWithin(what, 0, 2)) {
            return NONE;
        }
        if (!isFlow(flow)) {
            return BAD;
        }
        goUp(l, s, flow);
        goDown(l, s, flow);
        int many = 0;
        int least = ABSENT;
        int greatest = ABSENT;
        for (int h = 1; h <= HEIGHT_LIMIT; h++) {
            if (upward[h] != downward[h]) {
                many++;
                least = many == 1 ? h : least;
                greatest = h;
            }
        }
        return pick(what, many, least, greatest);
    }

    // ---- forms

    public int order(int law, int stuff, int doing, int k) {
        Laying l = lawAt(law);
        Stuff s = stuffAt(stuff);
        if (l == null || s == null) {
            return NONE;
        }
        if (!isDoing(doing) || !isForm(k)) {
            return BAD;
        }
        goThroughPaces(l, s, doing);
        for (int p = 0; p < PACES; p++) {
            if (l.formAt(paceTurns[p], p) == k) {
                return p;
            }
        }
        return ABSENT;
    }

    public int want(int form) {
        if (form == -1) {
            now.rowCount = 0;
            return 0;
        }
        if (!isForm(form)) {
            return BAD;
        }
        if (now.rowCount >= ROW_LIMIT) {
            return FULL;
        }
        now.row[now.rowCount] = form;
        now.rowCount++;
        return now.rowCount;
    }

    public int found(int law, int stuff, int doing, int n, int i) {
        Laying l = lawAt(law);
        Stuff s = stuffAt(stuff);
        if (l == null || s == null || !isWithin(i, -1, now.rowCount - 1)) {
            return NONE;
        }
        if (!isDoing(doing) || !isWithin(n, 0, 99)) {
            return BAD;
        }
        if (now.rowCount == 0) {
            return 0;
        }
        goThroughPaces(l, s, doing);
        for (int p = 0; p < PACES; p++) {
            paceForms[p] = l.formAt(paceTurns[p], p);
        }
        fillRowCosts(n);
        int first = cheapestFirstPace();
        if (rowCosts[0][first] >= OUT_OF_REACH) {
            return ABSENT;
        }
        return i == -1 ? rowCosts[0][first] : paceInRow(first, n, i);
    }

    public int bears(int law, int stuff, int doing, int n) {
        Laying l = lawAt(law);
        Stuff s = stuffAt(stuff);
        if (l == null || s == null) {
            return NONE;
        }
        if (!isDoing(doing) || !isWithin(n, -1, BEAR_LIMIT)) {
            return BAD;
        }
        int greatest = greatestBorne(l, s, doing);
        if (n == -1) {
            return greatest;
        }
        return n <= greatest ? 1 : 0;
    }

    // ---- films

    public int film(int stuff, int doing, int turns) {
        Stuff s = stuffAt(stuff);
        if (s == null) {
            return NONE;
        }
        if (!isDoing(doing) || !isWithin(turns, 0, TURNS_LIMIT)) {
            return BAD;
        }
        if (now.filmCount >= FILM_LIMIT) {
            return FULL;
        }
        now.filmStuffs[now.filmCount] = stuff;
        now.filmDoings[now.filmCount] = doing;
        now.filmTurns[now.filmCount] = turns;
        return now.filmCount++;
    }

    public int off(int law) {
        Laying l = lawAt(law);
        if (l == null) {
            return NONE;
        }
        return offAllFilms(l);
    }

    public int which() {
        int best = ABSENT;
        int least = 0;
        for (int i = 0; i < now.lawCount; i++) {
            Laying l = lawAt(i);
            int off = l == null ? OUT_OF_REACH : offAllFilms(l);
            if (best == ABSENT || off < least) {
                best = i;
                least = off;
            }
        }
        return best;
    }

    public int fits(int law, int n) {
        Laying l = lawAt(law);
        if (l == null) {
            return NONE;
        }
        if (!isWithin(n, 0, 99)) {
            return BAD;
        }
        int bits = 0;
        for (int i = 0; i < now.filmCount; i++) {
            if (offFilm(l, i) <= n) {
                bits |= 1 << i;
            }
        }
        return bits;
    }

    public int read(int law, int stuff, int flow, int turns, int form, int what) {
        Laying l = lawAt(law);
        Stuff s = stuffAt(stuff);
        if (l == null || s == null || !isWithin(what, 0, 2)) {
            return NONE;
        }
        if (!isFlow(flow) || !isWithin(turns, 0, TURNS_LIMIT) || !isForm(form)) {
            return BAD;
        }
        int many = 0;
        int first = ABSENT;
        int last = ABSENT;
        for (int h = 1; h <= HEIGHT_LIMIT; h++) {
            goThroughPaces(l, s, doingOf(h, flow));
            for (int p = 0; p < PACES; p++) {
                if (paceTurns[p] == turns && l.formAt(turns, p) == form) {
                    many++;
                    last = 100 * h + p;
                    first = many == 1 ? last : first;
                }
            }
        }
        return pick(what, many, first, last);
    }

    public int next(int stuff, int flow) {
        Stuff s = stuffAt(stuff);
        if (s == null) {
            return NONE;
        }
        if (!isFlow(flow)) {
            return BAD;
        }
        if (now.lawCount == 0) {
            return ABSENT;
        }
        int best = 1;
        int furthest = 0;
        for (int h = 1; h <= HEIGHT_LIMIT; h++) {
            int apart = lawsApart(s, doingOf(h, flow));
            if (apart > furthest) {
                furthest = apart;
                best = h;
            }
        }
        return best;
    }

    public int two(int law, int stuff, int other, int d, int flows) {
        Laying l = lawAt(law);
        Stuff one = stuffAt(stuff);
        Stuff second = stuffAt(other);
        if (l == null || one == null || second == null) {
            return NONE;
        }
        int oneFlow = flows / 100;
        int otherFlow = flows % 100;
        if (!isWithin(d, 1, 99) || !isFlow(oneFlow) || !isFlow(otherFlow)) {
            return BAD;
        }
        for (int h = 1; h <= HEIGHT_LIMIT; h++) {
            int reach = cut(100, turnsIn(l, one, doingOf(h, oneFlow)));
            int otherReach = cut(100, turnsIn(l, second, doingOf(h, otherFlow)));
            if (d > reach + otherReach) {
                return h;
            }
        }
        return ABSENT;
    }

    // ---- acts, the image

    public int act(int law, int act, int x) {
        trace.begin();
        Laying l = lawAt(law);
        if (l == null) {
            return 0;
        }
        switch (act) {
            case 0: return l.fallen(x, trace);
            case 1: return l.wound(x, trace);
            case 2: return l.laid(x, trace);
            default: return 0;
        }
    }

    public int trace(int i) {
        return trace.bodyAt(i);
    }

    public int as(int law, int k) {
        Laying l = lawAt(law);
        if (l == null || !isWithin(k, 0, KIND_LIMIT)) {
            return NONE;
        }
        return isOfKind(l, k) ? l.v : OTHER_KIND;
    }

    public int image() {
        kept.becomeLike(now);
        imageTaken = true;
        return now.lawCount;
    }

    public int undo() {
        if (!imageTaken) {
            return STATE;
        }
        now.becomeLike(kept);
        return now.lawCount;
    }

    public int count(int what) {
        switch (what) {
            case 0: return now.stuffCount;
            case 1: return now.lawCount;
            case 2: return now.filmCount;
            case 3: return now.tickCount;
            case 4: return now.rowCount;
            case 5: return now.tapeSize;
            case 6: return trace.ran;
            default: return NONE;
        }
    }

    // ---- what is told as it should be

    private static boolean isWithin(int x, int least, int greatest) {
        return x >= least && x <= greatest;
    }

    private static boolean isHeight(int height) {
        return isWithin(height, 1, HEIGHT_LIMIT);
    }

    private static boolean isFlow(int flow) {
        return isWithin(flow, 1, FLOW_LIMIT);
    }

    private static boolean isForm(int form) {
        return isWithin(form, 0, FORM_LIMIT);
    }

    private static boolean isDoing(int doing) {
        return doing >= 0 && isHeight(heightOf(doing)) && isFlow(flowOf(doing));
    }

    private boolean isToldOfRun(int what) {
        if (isWithin(what, 0, 2)) {
            return true;
        }
        return isWithin(what, 100, 399) && what % 100 < now.tickCount;
    }

    private Stuff stuffAt(int i) {
        return isWithin(i, 0, now.stuffCount - 1) ? now.stuffs[i] : null;
    }

    private Laying lawAt(int i) {
        return isWithin(i, 0, now.lawCount - 1) ? now.laws[i] : null;
    }

    // ---- doings

    private static int heightOf(int doing) {
        return doing / ONE_HEIGHT;
    }

    private static int flowOf(int doing) {
        return doing / ONE_FLOW % 100;
    }

    private static int paceOf(int doing) {
        return doing % ONE_FLOW;
    }

    private static int doingOf(int height, int flow) {
        return height * ONE_HEIGHT + flow * ONE_FLOW;
    }

    // ---- small helpers

    private static int cut(int whole, int by) {
        return by == 0 ? 0 : whole / by;
    }

    private static int pick(int what, int zeroth, int first, int second) {
        if (what == 0) {
            return zeroth;
        }
        return what == 1 ? first : second;
    }

    private static int turnsIn(Laying l, Stuff s, int doing) {
        return l.turnsIn(s, s.stiff, doing, l.isHighAt(heightOf(doing)));
    }

    private static int formIn(Laying l, Stuff s, int doing) {
        return l.formAt(turnsIn(l, s, doing), paceOf(doing));
    }

    // ---- laws and their kinds

    private Laying lawOfKind(int kind, int number, int v) {
        switch (kind) {
            case 1: return new Slow(number, v, reader);
            case 2: return new Hanging(2, number, v, reader);
            case 3: return new Flung(3, number, v, reader);
            case 4: return new Either(number, v, reader);
            case 5: return new Skinned(number, v, reader);
            case 6: return new Sewn(number, v, reader);
            default: return new Laying(0, number, v, reader);
        }
    }

    private static boolean isOfKind(Laying l, int k) {
        switch (k) {
            case 0: return true;
            case 1: return l instanceof Slow;
            case 2: return l instanceof Hanging;
            case 3: return l instanceof Flung;
            case 4: return l instanceof Either;
            case 5: return l instanceof Skinned;
            case 6: return l instanceof Sewn;
            default: return false;
        }
    }

    // ---- the run

    /** Fills the run's rows, and answers how often the heap toppled. */
    private int goThroughRun(Laying l, Stuff s) {
        boolean high = false;
        int heap = 0;
        int topples = 0;
        for (int t = 0; t < now.tickCount; t++) {
            int doing = now.ticks[t];
            high = l.isHighAfter(high, heightOf(doing));
            int turns = l.turnsIn(s, l.stiffAt(s, t), doing, high);
            int form = l.formAt(turns, paceOf(doing));
            heap = heapBehind(heap, form, flowOf(doing));
            if (heap > l.heap) {
                topples++;
                heap = 0;
            }
            runTurns[t] = turns;
            runForms[t] = form;
            runHeaps[t] = heap;
        }
        return topples;
    }

    private static int heapBehind(int heap, int form, int flow) {
        if (form == 0) {
            return heap + flow;
        }
        return form == FORM_LIMIT ? 0 : heap;
    }

    private int allRunTurns() {
        int sum = 0;
        for (int t = 0; t < now.tickCount; t++) {
            sum += runTurns[t];
        }
        return sum;
    }

    private int runFormChanges() {
        int changes = 0;
        for (int t = 1; t < now.tickCount; t++) {
            if (runForms[t] != runForms[t - 1]) {
                changes++;
            }
        }
        return changes;
    }

    // ---- curves

    private void goUp(Laying l, Stuff s, int flow) {
        boolean high = false;
        for (int h = 1; h <= HEIGHT_LIMIT; h++) {
            high = l.isHighAfter(high, h);
            upward[h] = l.turnsIn(s, s.stiff, doingOf(h, flow), high);
        }
    }

    private void goDown(Laying l, Stuff s, int flow) {
        boolean high = true;
        for (int h = HEIGHT_LIMIT; h >= 1; h--) {
            high = l.isHighAfter(high, h);
            downward[h] = l.turnsIn(s, s.stiff, doingOf(h, flow), high);
        }
    }

    // ---- paces

    /** Fills the turns at each pace; only where a test of the pace may turn are they reckoned anew. */
    private void goThroughPaces(Laying l, Stuff s, int doing) {
        int still = doingOf(heightOf(doing), flowOf(doing));
        int turns = turnsIn(l, s, still);
        for (int p = 0; p < PACES; p++) {
            if (l.shifts[p]) {
                turns = turnsIn(l, s, still + p);
            }
            paceTurns[p] = turns;
        }
    }

    // From the row's end on: what the rest of the row costs at least, if this place has this pace.
    private void fillRowCosts(int n) {
        for (int i = now.rowCount - 1; i >= 0; i--) {
            for (int p = 0; p < PACES; p++) {
                if (paceForms[p] != now.row[i]) {
                    rowCosts[i][p] = OUT_OF_REACH;
                } else if (i == now.rowCount - 1) {
                    rowCosts[i][p] = 0;
                } else {
                    rowCosts[i][p] = cheapestGoingOn(rowCosts[i + 1], p, n);
                }
            }
        }
    }

    // Looks at the near paces first, so that a far one need not be looked at when it can't be cheaper.
    private static int cheapestGoingOn(int[] costs, int pace, int n) {
        int best = OUT_OF_REACH;
        for (int d = 0; d <= n && d < best; d++) {
            if (pace - d >= 0) {
                best = Math.min(best, d + costs[pace - d]);
            }
            if (pace + d < PACES) {
                best = Math.min(best, d + costs[pace + d]);
            }
        }
        return best;
    }

    private int cheapestFirstPace() {
        int best = 0;
        for (int p = 1; p < PACES; p++) {
            if (rowCosts[0][p] < rowCosts[0][best]) {
                best = p;
            }
        }
        return best;
    }

    private int paceInRow(int first, int n, int place) {
        int pace = first;
        for (int i = 0; i < place; i++) {
            pace = firstGoingOn(rowCosts[i + 1], pace, n, rowCosts[i][pace]);
        }
        return pace;
    }

    private static int firstGoingOn(int[] costs, int pace, int n, int cost) {
        int greatest = Math.min(PACES - 1, pace + n);
        for (int p = Math.max(0, pace - n); p <= greatest; p++) {
            if (Math.abs(pace - p) + costs[p] == cost) {
                return p;
            }
        }
        return pace;
    }

    // ---- bearing

    private static int greatestBorne(Laying l, Stuff s, int doing) {
        int height = heightOf(doing);
        int form = formIn(l, s, doing);
        int greatest = BEAR_LIMIT;
        int highest = Math.min(HEIGHT_LIMIT, height + BEAR_LIMIT);
        for (int h = Math.max(1, height - BEAR_LIMIT); h <= highest; h++) {
            if (formIn(l, s, doing + (h - height) * ONE_HEIGHT) != form) {
                greatest = Math.min(greatest, Math.abs(h - height) - 1);
            }
        }
        return greatest;
    }

    // ---- films

    private int offFilm(Laying l, int film) {
        Stuff s = stuffAt(now.filmStuffs[film]);
        if (s == null) {
            return OUT_OF_REACH;
        }
        return Math.abs(turnsIn(l, s, now.filmDoings[film]) - now.filmTurns[film]);
    }

    private int offAllFilms(Laying l) {
        int sum = 0;
        for (int i = 0; i < now.filmCount; i++) {
            sum += offFilm(l, i);
        }
        return sum;
    }

    private int lawsApart(Stuff s, int doing) {
        int least = TURNS_LIMIT;
        int greatest = 0;
        for (int i = 0; i < now.lawCount; i++) {
            Laying l = lawAt(i);
            if (l != null) {
                int turns = turnsIn(l, s, doing);
                least = Math.min(least, turns);
                greatest = Math.max(greatest, turns);
            }
        }
        return greatest - least;
    }

    // ---- the classes inside

    private static final class Stuff {
        final int stiff;
        final int weight;

        Stuff(int stiff, int weight) {
            this.stiff = stiff;
            this.weight = weight;
        }
    }

    /** All that there is, but for the image and the trace. Stuffs and laws never change, so they are shared. */
    private static final class State {
        final Stuff[] stuffs = new Stuff[STUFF_LIMIT];
        int stuffCount = 0;
        final Laying[] laws = new Laying[LAW_LIMIT];
        int lawCount = 0;
        final int[] tape = new int[TAPE_LIMIT];
        int tapeSize = 0;
        final int[] ticks = new int[TICK_LIMIT];
        int tickCount = 0;
        final int[] row = new int[ROW_LIMIT];
        int rowCount = 0;
        final int[] filmStuffs = new int[FILM_LIMIT];
        final int[] filmDoings = new int[FILM_LIMIT];
        final int[] filmTurns = new int[FILM_LIMIT];
        int filmCount = 0;

        void becomeLike(State other) {
            for (int i = 0; i < STUFF_LIMIT; i++) {
                stuffs[i] = other.stuffs[i];
            }
            for (int i = 0; i < LAW_LIMIT; i++) {
                laws[i] = other.laws[i];
            }
            System.arraycopy(other.tape, 0, tape, 0, TAPE_LIMIT);
            System.arraycopy(other.ticks, 0, ticks, 0, TICK_LIMIT);
            System.arraycopy(other.row, 0, row, 0, ROW_LIMIT);
            System.arraycopy(other.filmStuffs, 0, filmStuffs, 0, FILM_LIMIT);
            System.arraycopy(other.filmDoings, 0, filmDoings, 0, FILM_LIMIT);
            System.arraycopy(other.filmTurns, 0, filmTurns, 0, FILM_LIMIT);
            stuffCount = other.stuffCount;
            lawCount = other.lawCount;
            tapeSize = other.tapeSize;
            tickCount = other.tickCount;
            rowCount = other.rowCount;
            filmCount = other.filmCount;
        }
    }

    /** The bodies that ran in the latest act. */
    private static final class Trace {
        private final int[] bodies = new int[TRACE_LIMIT];
        int ran = 0;

        void begin() {
            ran = 0;
        }

        void add(int body) {
            if (ran < TRACE_LIMIT) {
                bodies[ran] = body;
            }
            ran++;
        }

        int bodyAt(int i) {
            return isWithin(i, 0, Math.min(ran, TRACE_LIMIT) - 1) ? bodies[i] : NONE;
        }
    }

    /** Reads a tape as a law: its clauses become code, its settings numbers; or the place tells the fault. */
    private static final class Reader {
        private int[] tape = new int[0];
        private int size = 0;
        int place = 0;
        final int[] code = new int[TAPE_LIMIT];
        int codeSize = 0;
        final int[] forms = new int[FORM_LIMIT];
        int heap = 0;
        int cool = 0;

        boolean isLaw(int[] bytes, int many) {
            tape = bytes;
            size = Math.min(many, bytes.length);
            place = 0;
            codeSize = 0;
            heap = 20;
            cool = 0;
            for (int k = 0; k < FORM_LIMIT; k++) {
                forms[k] = 3 * (k + 1);
            }
            for (int clauses = 1; clauses <= CLAUSE_LIMIT; clauses++) {
                if (!isClause()) {
                    return false;
                }
                if (place == size) {
                    return true;
                }
                if (clauses == CLAUSE_LIMIT || !comes(';')) {
                    return false;
                }
            }
            return false;
        }

        private boolean isClause() {
            int letter = ahead();
            String word = wordOf(letter);
            if (word == null || !comesWord(word)) {
                return false;
            }
            int k = letter == 'f' ? formTold() : 0;
            int n = k < 0 ? -1 : number();
            if (n < 0) {
                return false;
            }
            switch (letter) {
                case 'f': forms[k] = n; return true;
                case 'h': heap = n; return true;
                case 'c': cool = n; return true;
                default: break;
            }
            if (!comes(' ') || !isAny(0)) {
                return false;
            }
            add((letter == 'w' ? WIND : EASE) | n << 8);
            return true;
        }

        private static String wordOf(int letter) {
            switch (letter) {
                case 'w': return "wind ";
                case 'e': return "ease ";
                case 'f': return "form ";
                case 'h': return "heap ";
                case 'c': return "cool ";
                default: return null;
            }
        }

        /** The place of a form's number in the row of them; -1 if none comes. */
        private int formTold() {
            int k = ahead() - '1';
            if (!isWithin(k, 0, FORM_LIMIT - 1)) {
                return -1;
            }
            place++;
            return comes(' ') ? k : -1;
        }

        private boolean isAny(int open) {
            if (!isAll(open)) {
                return false;
            }
            for (int i = 0; i < TAPE_LIMIT && comes('|'); i++) {
                if (!isAll(open)) {
                    return false;
                }
                add(OR);
            }
            return true;
        }

        private boolean isAll(int open) {
            if (!isPart(open)) {
                return false;
            }
            for (int i = 0; i < TAPE_LIMIT && comes('&'); i++) {
                if (!isPart(open)) {
                    return false;
                }
                add(AND);
            }
            return true;
        }

        private boolean isPart(int open) {
            if (ahead() != '!' && ahead() != '(') {
                return isTest();
            }
            if (open >= OPEN_LIMIT) {
                return false;
            }
            if (comes('(')) {
                return isAny(open + 1) && comes(')');
            }
            place++;
            if (!isPart(open + 1)) {
                return false;
            }
            add(NOT);
            return true;
        }

        private boolean isTest() {
            int about = aboutOf(ahead());
            if (about < 0) {
                return false;
            }
            place++;
            int sign = signOf(ahead());
            if (sign < 0) {
                return false;
            }
            place++;
            int n = number();
            if (n < 0) {
                return false;
            }
            add(TEST | about << 3 | sign << 6 | n << 8);
            return true;
        }

        private static int aboutOf(int letter) {
            switch (letter) {
                case 'h': return ABOUT_HEIGHT;
                case 'f': return ABOUT_FLOW;
                case 'p': return ABOUT_PACE;
                case 's': return ABOUT_STIFF;
                case 'g': return ABOUT_WEIGHT;
                default: return -1;
            }
        }

        private static int signOf(int letter) {
            switch (letter) {
                case '<': return LESS;
                case '=': return SAME;
                case '>': return MORE;
                default: return -1;
            }
        }

        private int number() {
            if (!isWithin(ahead(), '0', '9')) {
                return -1;
            }
            int n = ahead() - '0';
            place++;
            if (n > 0 && isWithin(ahead(), '0', '9')) {
                n = 10 * n + ahead() - '0';
                place++;
            }
            return n;
        }

        private boolean comesWord(String word) {
            for (int i = 0; i < word.length(); i++) {
                if (!comes(word.charAt(i))) {
                    return false;
                }
            }
            return true;
        }

        private boolean comes(char sign) {
            if (ahead() != sign) {
                return false;
            }
            place++;
            return true;
        }

        private int ahead() {
            return place >= 0 && place < size ? tape[place] : -1;
        }

        private void add(int instruction) {
            if (codeSize < TAPE_LIMIT) {
                code[codeSize] = instruction;
                codeSize++;
            }
        }
    }

    /** A law of the kind that all others stand under. */
    private static class Laying {
        final int kind;
        final int number;
        final int v;
        final int heap;
        final int cool;
        final int[] forms;
        private final int[] code;
        /** At which paces the base may be another than at the pace below. */
        final boolean[] shifts = new boolean[PACES];

        Laying(int kind, int number, int v, Reader reader) {
            this.kind = kind;
            this.number = number;
            this.v = v;
            heap = reader.heap;
            cool = reader.cool;
            forms = Arrays.copyOf(reader.forms, FORM_LIMIT);
            code = Arrays.copyOf(reader.code, reader.codeSize);
            for (int p = 0; p < PACES; p++) {
                shifts[p] = isTestedAt(p);
            }
        }

        // A test of the pace by n turns at n or behind it, and nowhere else.
        private boolean isTestedAt(int pace) {
            for (int i = 0; i < code.length; i++) {
                int n = code[i] >> 8;
                if ((code[i] & 7) == TEST && (code[i] >> 3 & 7) == ABOUT_PACE && isWithin(pace, n, n + 1)) {
                    return true;
                }
            }
            return false;
        }

        // The truths that wait for their sign are the bits of one int: 13 at most, as five may be open.
        final int baseIn(Stuff s, int doing) {
            int height = heightOf(doing);
            int flow = flowOf(doing);
            int pace = paceOf(doing);
            int sum = 0;
            int truths = 0;
            for (int i = 0; i < code.length; i++) {
                int n = code[i] >> 8;
                int last = truths & 1;
                switch (code[i] & 7) {
                    case TEST: truths = truths << 1 | truth(code[i], tested(code[i], height, flow, pace, s)); break;
                    case NOT: truths = truths ^ 1; break;
                    case AND: truths = truths >> 1 & (last == 1 ? -1 : -2); break;
                    case OR: truths = truths >> 1 | last; break;
                    case WIND: sum += last * n; truths = 0; break;
                    case EASE: sum -= last * n; truths = 0; break;
                    default: break;
                }
            }
            return Math.max(1, sum);
        }

        private static int tested(int test, int height, int flow, int pace, Stuff s) {
            switch (test >> 3 & 7) {
                case ABOUT_HEIGHT: return height;
                case ABOUT_FLOW: return flow;
                case ABOUT_PACE: return pace;
                case ABOUT_STIFF: return s.stiff;
                default: return s.weight;
            }
        }

        private static int truth(int test, int x) {
            int n = test >> 8;
            switch (test >> 6 & 3) {
                case LESS: return x < n ? 1 : 0;
                case SAME: return x == n ? 1 : 0;
                default: return x > n ? 1 : 0;
            }
        }

        final int turnsIn(Stuff s, int stiff, int doing, boolean high) {
            return Math.min(TURNS_LIMIT, spun(baseIn(s, doing), s.weight, stiff, doing, high));
        }

        int spun(int base, int weight, int stiff, int doing, boolean high) {
            return base;
        }

        /** The stiffness by which a run divides in a tick. */
        int stiffAt(Stuff s, int tick) {
            return s.stiff;
        }

        final boolean isHighAt(int height) {
            return height > 10 * v;
        }

        final boolean isHighAfter(boolean high, int height) {
            return isHighAt(height) || high && height >= 5 * v;
        }

        final int formAt(int turns, int pace) {
            int quick = cut(10 * pace, turns);
            int form = 0;
            for (int k = 0; k < FORM_LIMIT && quick >= forms[k]; k++) {
                form = k + 1;
            }
            return form;
        }

        int fallen(int x, Trace trace) {
            trace.add(1);
            return x + number;
        }

        int wound(int x, Trace trace) {
            trace.add(2);
            return fallen(x, trace) - v;
        }

        int laid(int x, Trace trace) {
            trace.add(3);
            return wound(x, trace) * 2;
        }
    }

    private static final class Slow extends Laying {
        Slow(int number, int v, Reader reader) {
            super(1, number, v, reader);
        }

        int spun(int base, int weight, int stiff, int doing, boolean high) {
            return base + cut(v * flowOf(doing), heightOf(doing));
        }

        int fallen(int x, Trace trace) {
            trace.add(11);
            return super.fallen(x * 3, trace);
        }
    }

    private static class Hanging extends Laying {
        Hanging(int kind, int number, int v, Reader reader) {
            super(kind, number, v, reader);
        }

        int spun(int base, int weight, int stiff, int doing, boolean high) {
            return base + cut(weight * v, stiff);
        }

        int wound(int x, Trace trace) {
            trace.add(21);
            return -super.wound(x, trace);
        }
    }

    private static class Flung extends Laying {
        Flung(int kind, int number, int v, Reader reader) {
            super(kind, number, v, reader);
        }

        int spun(int base, int weight, int stiff, int doing, boolean high) {
            return base + cut(heightOf(doing) * flowOf(doing), 10 * stiff);
        }

        int laid(int x, Trace trace) {
            trace.add(31);
            return super.laid(x, trace) ^ 7;
        }
    }

    private static final class Either extends Hanging {
        Either(int number, int v, Reader reader) {
            super(4, number, v, reader);
        }

        int spun(int base, int weight, int stiff, int doing, boolean high) {
            return super.spun(base, weight, stiff, doing, high) + (high ? v : 0);
        }

        int laid(int x, Trace trace) {
            trace.add(41);
            return super.laid(x - 1, trace) + fallen(2, trace);
        }
    }

    private static final class Skinned extends Hanging {
        Skinned(int number, int v, Reader reader) {
            super(5, number, v, reader);
        }

        int stiffAt(Stuff s, int tick) {
            return Math.min(COOLED_LIMIT, s.stiff + cool * tick);
        }

        int fallen(int x, Trace trace) {
            trace.add(51);
            return super.fallen(x, trace) ^ number;
        }
    }

    private static final class Sewn extends Flung {
        Sewn(int number, int v, Reader reader) {
            super(6, number, v, reader);
        }

        int spun(int base, int weight, int stiff, int doing, boolean high) {
            return Math.min(super.spun(base, weight, stiff, doing, high), base + 9 * v);
        }

        int wound(int x, Trace trace) {
            trace.add(61);
            return super.wound(x, trace) + v;
        }
    }
}
