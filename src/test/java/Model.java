import java.util.ArrayList;
import java.util.List;
import java.util.regex.Matcher;
import java.util.regex.Pattern;

/** The document written a second time, as plainly and slowly as it reads, to compare the class with. */
final class Model {
    private static final String NUMBER = "(?:0|[1-9][0-9]?)";
    private static final String TEST = "[hfpsg][<=>]" + NUMBER;
    private static final Pattern LAW = law();

    private static final class Law {
        int kind;
        int v;
        int number;
        List<String> clauses = new ArrayList<>();
        int[] forms = {0, 3, 6, 9, 12};
        int heap = 20;
        int cool = 0;
    }

    private static final class Film {
        int stuff;
        int doing;
        int turns;
    }

    private static final class All {
        List<int[]> stuffs = new ArrayList<>();
        List<Law> laws = new ArrayList<>();
        List<Film> films = new ArrayList<>();
        List<Integer> ticks = new ArrayList<>();
        List<Integer> row = new ArrayList<>();
        String tape = "";

        All copy() {
            All a = new All();
            a.stuffs.addAll(stuffs);
            a.laws.addAll(laws);
            a.films.addAll(films);
            a.ticks.addAll(ticks);
            a.row.addAll(row);
            a.tape = tape;
            return a;
        }
    }

    private All all = new All();
    private All image = null;
    private List<Integer> bodies = new ArrayList<>();

    /** As five parts may be open at most, the laws are a regular language. */
    private static Pattern law() {
        String f = TEST;
        for (int open = 1; open <= 5; open++) {
            f = "(?:" + TEST + "|!" + f + "|\\(" + f + "(?:[|&]" + f + ")*\\))";
        }
        String e = f + "(?:[|&]" + f + ")*";
        String clause = "(?:(?:wind|ease) " + NUMBER + " " + e + "|form [1-4] " + NUMBER + "|(?:heap|cool) " + NUMBER + ")";
        return Pattern.compile(clause + "(?:;" + clause + "){0,9}", Pattern.DOTALL);
    }

    private static boolean isLawOrItsBeginning(String text) {
        Matcher m = LAW.matcher(text);
        return m.matches() || m.hitEnd();
    }

    static int faultOf(String text) {
        for (int i = 0; i < text.length(); i++) {
            if (!isLawOrItsBeginning(text.substring(0, i + 1))) {
                return i;
            }
        }
        return LAW.matcher(text).matches() ? -1 : text.length();
    }

    // ---- a law's parts

    private static int height(int doing) {
        return doing / 10000;
    }

    private static int flow(int doing) {
        return doing / 100 % 100;
    }

    private static int pace(int doing) {
        return doing % 100;
    }

    private static int doing(int h, int f, int p) {
        return 10000 * h + 100 * f + p;
    }

    private static List<String> split(String e, char by) {
        List<String> parts = new ArrayList<>();
        int open = 0;
        int from = 0;
        for (int i = 0; i < e.length(); i++) {
            char c = e.charAt(i);
            open += c == '(' ? 1 : c == ')' ? -1 : 0;
            if (c == by && open == 0) {
                parts.add(e.substring(from, i));
                from = i + 1;
            }
        }
        parts.add(e.substring(from));
        return parts;
    }

    private static boolean holds(String e, int[] stuff, int doing) {
        return split(e, '|').stream().anyMatch(t -> split(t, '&').stream().allMatch(f -> partHolds(f, stuff, doing)));
    }

    private static boolean partHolds(String f, int[] stuff, int doing) {
        if (f.startsWith("!")) {
            return !partHolds(f.substring(1), stuff, doing);
        }
        if (f.startsWith("(")) {
            return holds(f.substring(1, f.length() - 1), stuff, doing);
        }
        int n = Integer.parseInt(f.substring(2));
        int[] told = {height(doing), flow(doing), pace(doing), stuff[0], stuff[1]};
        int x = told["hfpsg".indexOf(f.charAt(0))];
        return f.charAt(1) == '<' ? x < n : f.charAt(1) == '=' ? x == n : x > n;
    }

    private static int base(Law l, int[] stuff, int doing) {
        int sum = 0;
        for (String clause : l.clauses) {
            String[] words = clause.split(" ");
            if (words.length == 3 && !words[0].equals("form") && holds(words[2], stuff, doing)) {
                sum += Integer.parseInt(words[1]) * (words[0].equals("wind") ? 1 : -1);
            }
        }
        return Math.max(1, sum);
    }

    private static int turns(Law l, int[] stuff, int doing, int stiff, boolean high) {
        int b = base(l, stuff, doing);
        int hanging = b + stuff[1] * l.v / stiff;
        int flung = b + height(doing) * flow(doing) / (10 * stiff);
        int[] byKind = {b, b + l.v * flow(doing) / height(doing), hanging, flung, hanging + (high ? l.v : 0), hanging,
            Math.min(flung, b + 9 * l.v)};
        return Math.min(999, byKind[l.kind]);
    }

    private static int turns(Law l, int[] stuff, int doing) {
        return turns(l, stuff, doing, stuff[0], height(doing) > 10 * l.v);
    }

    private static int form(Law l, int turns, int pace) {
        int best = 0;
        for (int k = 1; k <= 4; k++) {
            boolean all = true;
            for (int j = 1; j <= k; j++) {
                all &= 10 * pace / turns >= l.forms[j];
            }
            best = all ? k : best;
        }
        return best;
    }

    private static int form(Law l, int[] stuff, int doing) {
        return form(l, turns(l, stuff, doing), pace(doing));
    }

    // ---- what is refused

    private boolean noStuff(int i) {
        return i < 0 || i >= all.stuffs.size();
    }

    private boolean noLaw(int i) {
        return i < 0 || i >= all.laws.size();
    }

    private static boolean out(int x, int from, int to) {
        return x < from || x > to;
    }

    private static boolean badDoing(int doing) {
        return doing < 0 || out(height(doing), 1, 60) || out(flow(doing), 1, 20);
    }

    // ---- the face

    int stuff(int stiff, int weight) {
        if (out(stiff, 1, 20) || out(weight, 1, 20)) {
            return -2;
        }
        if (all.stuffs.size() == 5) {
            return -4;
        }
        all.stuffs.add(new int[] {stiff, weight});
        return all.stuffs.size() - 1;
    }

    int of(int stuff, int what) {
        return noStuff(stuff) || out(what, 0, 1) ? -1 : all.stuffs.get(stuff)[what];
    }

    int feed(long w, int n) {
        if (out(n, 1, 8)) {
            return -2;
        }
        if (all.tape.length() + n > 120) {
            return -4;
        }
        StringBuilder s = new StringBuilder();
        for (int i = 0; i < n; i++) {
            s.insert(0, (char) (w & 255));
            w >>= 8;
        }
        all.tape += s;
        return all.tape.length();
    }

    int law(int kind, int v) {
        if (out(kind, 0, 6)) {
            return -1;
        }
        if (out(v, 1, 9)) {
            return -2;
        }
        if (all.laws.size() == 8) {
            return -4;
        }
        String text = all.tape;
        all.tape = "";
        int fault = faultOf(text);
        if (fault >= 0) {
            return -10 - fault;
        }
        Law l = new Law();
        l.kind = kind;
        l.v = v;
        l.number = all.laws.size();
        for (String clause : text.split(";")) {
            String[] words = clause.split(" ");
            l.clauses.add(clause);
            if (words[0].equals("form")) {
                l.forms[Integer.parseInt(words[1])] = Integer.parseInt(words[2]);
            } else if (words[0].equals("heap")) {
                l.heap = Integer.parseInt(words[1]);
            } else if (words[0].equals("cool")) {
                l.cool = Integer.parseInt(words[1]);
            }
        }
        all.laws.add(l);
        return l.number;
    }

    int told(int law, int what) {
        if (noLaw(law)) {
            return -1;
        }
        Law l = all.laws.get(law);
        if (!out(what, 11, 14)) {
            return l.forms[what - 10];
        }
        return what == 0 ? l.kind : what == 1 ? l.v : what == 2 ? l.heap : what == 3 ? l.cool : -1;
    }

    int winds(int law, int stuff, int doing, int what) {
        if (noLaw(law) || noStuff(stuff) || out(what, 0, 2)) {
            return -1;
        }
        if (badDoing(doing)) {
            return -2;
        }
        Law l = all.laws.get(law);
        int[] s = all.stuffs.get(stuff);
        return what == 0 ? base(l, s, doing) : what == 1 ? turns(l, s, doing) : form(l, s, doing);
    }

    int tick(int doing) {
        if (doing == -1) {
            all.ticks.clear();
            return 0;
        }
        if (badDoing(doing)) {
            return -2;
        }
        if (all.ticks.size() == 20) {
            return -4;
        }
        all.ticks.add(doing);
        return all.ticks.size();
    }

    private static boolean highThen(Law l, boolean high, int height) {
        if (height > 10 * l.v) {
            return true;
        }
        return height < 5 * l.v ? false : high;
    }

    int run(int law, int stuff, int what) {
        int t = what % 100;
        boolean ofTick = what >= 100 && what < 400 && t < all.ticks.size();
        if (noLaw(law) || noStuff(stuff) || !ofTick && out(what, 0, 2)) {
            return -1;
        }
        Law l = all.laws.get(law);
        int[] s = all.stuffs.get(stuff);
        List<int[]> done = new ArrayList<>();
        boolean high = false;
        int heap = 0;
        int topples = 0;
        int sum = 0;
        int changes = 0;
        for (int i = 0; i < all.ticks.size(); i++) {
            int d = all.ticks.get(i);
            high = highThen(l, high, height(d));
            int stiff = l.kind == 5 ? Math.min(99, s[0] + i * l.cool) : s[0];
            int turns = turns(l, s, d, stiff, high);
            int form = form(l, turns, pace(d));
            heap = form == 0 ? heap + flow(d) : form == 4 ? 0 : heap;
            if (heap > l.heap) {
                heap = 0;
                topples++;
            }
            sum += turns;
            changes += i > 0 && done.get(i - 1)[0] != form ? 1 : 0;
            done.add(new int[] {form, turns, heap});
        }
        if (ofTick) {
            return done.get(t)[what / 100 - 1];
        }
        return what == 0 ? topples : what == 1 ? sum : changes;
    }

    private int curveAt(Law l, int[] s, int flow, int height, boolean up) {
        boolean high = !up;
        int h = up ? 1 : 60;
        while (true) {
            high = highThen(l, high, h);
            if (h == height) {
                return turns(l, s, doing(h, flow, 0), s[0], high);
            }
            h += up ? 1 : -1;
        }
    }

    int curve(int law, int stuff, int flow, int height, boolean up) {
        if (noLaw(law) || noStuff(stuff)) {
            return -1;
        }
        if (out(flow, 1, 20) || out(height, 1, 60)) {
            return -2;
        }
        return curveAt(all.laws.get(law), all.stuffs.get(stuff), flow, height, up);
    }

    int jumps(int law, int stuff, int flow, int n, int what) {
        if (noLaw(law) || noStuff(stuff) || out(what, 0, 1)) {
            return -1;
        }
        if (out(flow, 1, 20) || out(n, 1, 99)) {
            return -2;
        }
        List<Integer> at = new ArrayList<>();
        for (int h = 2; h <= 60; h++) {
            int d = curve(law, stuff, flow, h, true) - curve(law, stuff, flow, h - 1, true);
            if (d >= n || -d >= n) {
                at.add(h);
            }
        }
        return what == 0 ? at.size() : at.isEmpty() ? -5 : at.get(0);
    }

    int several(int law, int stuff, int flow, int what) {
        if (noLaw(law) || noStuff(stuff) || out(what, 0, 2)) {
            return -1;
        }
        if (out(flow, 1, 20)) {
            return -2;
        }
        List<Integer> at = new ArrayList<>();
        for (int h = 1; h <= 60; h++) {
            if (curve(law, stuff, flow, h, true) != curve(law, stuff, flow, h, false)) {
                at.add(h);
            }
        }
        return told(at, what);
    }

    private static int told(List<Integer> at, int what) {
        if (what == 0) {
            return at.size();
        }
        return at.isEmpty() ? -5 : at.get(what == 1 ? 0 : at.size() - 1);
    }

    int order(int law, int stuff, int doing, int k) {
        if (noLaw(law) || noStuff(stuff)) {
            return -1;
        }
        if (badDoing(doing) || out(k, 0, 4)) {
            return -2;
        }
        for (int p = 0; p < 100; p++) {
            if (form(all.laws.get(law), all.stuffs.get(stuff), doing(height(doing), flow(doing), p)) == k) {
                return p;
            }
        }
        return -5;
    }

    int want(int form) {
        if (form == -1) {
            all.row.clear();
            return 0;
        }
        if (out(form, 0, 4)) {
            return -2;
        }
        if (all.row.size() == 8) {
            return -4;
        }
        all.row.add(form);
        return all.row.size();
    }

    /** For each pace the best row that ends in it, as {sum, the row's paces as digits of a hundred}. */
    int found(int law, int stuff, int doing, int n, int i) {
        if (noLaw(law) || noStuff(stuff) || out(i, -1, all.row.size() - 1)) {
            return -1;
        }
        if (badDoing(doing) || out(n, 0, 99)) {
            return -2;
        }
        long[][] ends = null;
        for (int form : all.row) {
            long[][] next = new long[100][];
            for (int p = 0; p < 100; p++) {
                int d = doing(height(doing), flow(doing), p);
                if (form(all.laws.get(law), all.stuffs.get(stuff), d) == form) {
                    next[p] = ends == null ? new long[] {0, p} : bestBefore(ends, p, n);
                }
            }
            ends = next;
        }
        if (ends == null) {
            return 0;
        }
        long[] best = null;
        for (long[] e : ends) {
            best = better(best, e);
        }
        if (best == null) {
            return -5;
        }
        long paces = best[1];
        for (int j = all.row.size() - 1; j > i && i >= 0; j--) {
            paces /= 100;
        }
        return (int) (i == -1 ? best[0] : paces % 100);
    }

    private static long[] bestBefore(long[][] ends, int p, int n) {
        long[] best = null;
        for (int q = 0; q < 100; q++) {
            if (ends[q] != null && Math.abs(p - q) <= n) {
                best = better(best, new long[] {ends[q][0] + Math.abs(p - q), ends[q][1] * 100 + p});
            }
        }
        return best;
    }

    private static long[] better(long[] a, long[] b) {
        if (a == null || b == null) {
            return a == null ? b : a;
        }
        return b[0] < a[0] || b[0] == a[0] && b[1] < a[1] ? b : a;
    }

    int bears(int law, int stuff, int doing, int n) {
        if (noLaw(law) || noStuff(stuff)) {
            return -1;
        }
        if (badDoing(doing) || out(n, -1, 20)) {
            return -2;
        }
        if (n == -1) {
            int greatest = 0;
            for (int m = 0; m <= 20; m++) {
                greatest = bears(law, stuff, doing, m) == 1 ? m : greatest;
            }
            return greatest;
        }
        int form = winds(law, stuff, doing, 2);
        for (int h = 1; h <= 60; h++) {
            if (Math.abs(h - height(doing)) <= n && winds(law, stuff, doing(h, flow(doing), pace(doing)), 2) != form) {
                return 0;
            }
        }
        return 1;
    }

    int film(int stuff, int doing, int turns) {
        if (noStuff(stuff)) {
            return -1;
        }
        if (badDoing(doing) || out(turns, 0, 999)) {
            return -2;
        }
        if (all.films.size() == 12) {
            return -4;
        }
        Film f = new Film();
        f.stuff = stuff;
        f.doing = doing;
        f.turns = turns;
        all.films.add(f);
        return all.films.size() - 1;
    }

    private int offFilm(int law, Film f) {
        return Math.abs(winds(law, f.stuff, f.doing, 1) - f.turns);
    }

    int off(int law) {
        return noLaw(law) ? -1 : all.films.stream().mapToInt(f -> offFilm(law, f)).sum();
    }

    int which() {
        int best = -5;
        for (int i = all.laws.size() - 1; i >= 0; i--) {
            best = best < 0 || off(i) <= off(best) ? i : best;
        }
        return best;
    }

    int fits(int law, int n) {
        if (noLaw(law)) {
            return -1;
        }
        if (out(n, 0, 99)) {
            return -2;
        }
        int bits = 0;
        for (int i = 0; i < all.films.size(); i++) {
            bits += offFilm(law, all.films.get(i)) <= n ? 1 << i : 0;
        }
        return bits;
    }

    int read(int law, int stuff, int flow, int turns, int form, int what) {
        if (noLaw(law) || noStuff(stuff) || out(what, 0, 2)) {
            return -1;
        }
        if (out(flow, 1, 20) || out(turns, 0, 999) || out(form, 0, 4)) {
            return -2;
        }
        List<Integer> at = new ArrayList<>();
        for (int h = 1; h <= 60; h++) {
            for (int p = 0; p < 100; p++) {
                int d = doing(h, flow, p);
                if (winds(law, stuff, d, 1) == turns && winds(law, stuff, d, 2) == form) {
                    at.add(100 * h + p);
                }
            }
        }
        return told(at, what);
    }

    int next(int stuff, int flow) {
        if (noStuff(stuff)) {
            return -1;
        }
        if (out(flow, 1, 20)) {
            return -2;
        }
        int best = -5;
        int most = -1;
        for (int h = 1; h <= 60; h++) {
            int d = doing(h, flow, 0);
            int[] turns = all.laws.stream().mapToInt(l -> turns(l, all.stuffs.get(stuff), d)).sorted().toArray();
            if (turns.length > 0 && turns[turns.length - 1] - turns[0] > most) {
                most = turns[turns.length - 1] - turns[0];
                best = h;
            }
        }
        return best;
    }

    int two(int law, int stuff, int other, int d, int flows) {
        if (noLaw(law) || noStuff(stuff) || noStuff(other)) {
            return -1;
        }
        if (out(d, 1, 99) || flows < 0 || out(flows / 100, 1, 20) || out(flows % 100, 1, 20)) {
            return -2;
        }
        for (int h = 1; h <= 60; h++) {
            int one = winds(law, stuff, doing(h, flows / 100, 0), 1);
            int second = winds(law, other, doing(h, flows % 100, 0), 1);
            if (100 / one + 100 / second < d) {
                return h;
            }
        }
        return -5;
    }

    int act(int law, int act, int x) {
        bodies.clear();
        if (noLaw(law) || out(act, 0, 2)) {
            return 0;
        }
        return done(all.laws.get(law), act, all.laws.get(law).kind, x);
    }

    private static final int[] ABOVE = {-1, 0, 0, 0, 2, 2, 3};
    private static final int[][] BODIES = {{1, 2, 3}, {11, 0, 0}, {0, 21, 0}, {0, 0, 31}, {0, 0, 41}, {51, 0, 0}, {0, 61, 0}};

    private int done(Law l, int act, int from, int x) {
        int kind = from;
        while (BODIES[kind][act] == 0) {
            kind = ABOVE[kind];
        }
        int body = BODIES[kind][act];
        bodies.add(body);
        switch (body) {
            case 1: return x + l.number;
            case 2: return done(l, 0, l.kind, x) - l.v;
            case 3: return done(l, 1, l.kind, x) * 2;
            case 11: return done(l, 0, 0, x * 3);
            case 21: return -done(l, 1, 0, x);
            case 31: return done(l, 2, 0, x) ^ 7;
            case 41: return done(l, 2, 2, x - 1) + done(l, 0, l.kind, 2);
            case 51: return done(l, 0, 2, x) ^ l.number;
            default: return done(l, 1, 3, x) + l.v;
        }
    }

    int trace(int i) {
        return i < 0 || i >= bodies.size() || i >= 20 ? -1 : bodies.get(i);
    }

    int as(int law, int k) {
        if (noLaw(law) || out(k, 0, 6)) {
            return -1;
        }
        int kind = all.laws.get(law).kind;
        while (kind >= 0 && kind != k) {
            kind = ABOVE[kind];
        }
        return kind == k ? all.laws.get(law).v : -6;
    }

    int image() {
        image = all.copy();
        return all.laws.size();
    }

    int undo() {
        if (image == null) {
            return -3;
        }
        all = image.copy();
        return all.laws.size();
    }

    int count(int what) {
        int[] many = {all.stuffs.size(), all.laws.size(), all.films.size(), all.ticks.size(), all.row.size(),
            all.tape.length(), bodies.size()};
        return out(what, 0, 6) ? -1 : many[what];
    }
}
