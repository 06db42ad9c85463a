import java.nio.charset.StandardCharsets;
import java.util.Random;

/** Long runs of calls, made by a fixed seed each, on the class and on the model: both answer the same. */
public final class ModelTest {
    private static final int RUNS = 400;
    private static final int CALLS = 512;
    private static final String[] NAMES = {"stuff", "of", "feed", "law", "told", "winds", "tick", "run", "curve", "jumps",
        "several", "order", "want", "found", "bears", "film", "off", "which", "fits", "read", "next", "two", "act", "trace",
        "as", "image", "undo", "count", "text"};
    private static final int[] OFTEN = {3, 1, 1, 1, 4, 14, 14, 16, 8, 8, 8, 10, 10, 12, 8, 8, 4, 4, 4, 3, 4, 6, 8, 6, 4, 1, 1,
        6, 14};

    private final Random random;
    private final HoneyWinds x = new HoneyWinds();
    private final Model m = new Model();
    private String told = "";
    private int calls = 0;

    private ModelTest(long seed) {
        random = new Random(seed);
    }

    public static void main(String[] args) {
        int all = 0;
        for (int seed = 1; seed <= RUNS; seed++) {
            ModelTest t = new ModelTest(seed);
            while (t.calls < CALLS - 20) {
                t.step("run " + seed);
            }
            all += t.calls;
        }
        System.out.println(all + " calls were compared");
        Due.end();
    }

    // ---- numbers

    private int in(int from, int to) {
        return from + random.nextInt(to - from + 1);
    }

    /** Mostly from .. to; at times one off its ends, or any int. */
    private int near(int from, int to) {
        int r = random.nextInt(60);
        if (r == 0) {
            return from - 1;
        }
        if (r == 1) {
            return to + 1;
        }
        return r == 2 ? random.nextInt() : in(from, to);
    }

    private int law() {
        return near(0, Math.max(0, m.count(1) - 1));
    }

    private int stuff() {
        return near(0, Math.max(0, m.count(0) - 1));
    }

    private int doing() {
        if (random.nextInt(40) == 0) {
            return random.nextInt(3) == 0 ? random.nextInt() : random.nextInt(700000);
        }
        int pace = random.nextBoolean() ? in(0, 12) : in(0, 99);
        return 10000 * in(1, 60) + 100 * in(1, 20) + pace;
    }

    private int flow() {
        return near(1, 20);
    }

    // ---- texts

    private String number() {
        return Integer.toString(random.nextBoolean() ? in(0, 12) : in(0, 99));
    }

    private String test() {
        return "" + "hfpsg".charAt(in(0, 4)) + "<=>".charAt(in(0, 2)) + number();
    }

    private String part(int open) {
        int r = random.nextInt(10);
        if (open >= 6 || r < 6) {
            return test();
        }
        return r < 8 ? "!" + part(open + 1) : "(" + any(open + 1) + ")";
    }

    private String any(int open) {
        StringBuilder s = new StringBuilder(part(open));
        while (random.nextInt(3) == 0) {
            s.append(random.nextBoolean() ? '|' : '&').append(part(open));
        }
        return s.toString();
    }

    private String clause() {
        int r = random.nextInt(12);
        if (r < 7) {
            return "wind " + number() + " " + (random.nextInt(3) == 0 ? "h>0" : any(0));
        }
        if (r < 9) {
            return "ease " + number() + " " + any(0);
        }
        if (r == 9) {
            return "form " + in(1, 4) + " " + (random.nextBoolean() ? in(0, 15) : in(0, 99));
        }
        return (r == 10 ? "heap " : "cool ") + number();
    }

    private String text() {
        StringBuilder s = new StringBuilder(clause());
        int more = random.nextInt(8) == 0 ? 11 : 4;
        while (random.nextInt(more) != 0) {
            s.append(';').append(clause());
        }
        if (random.nextInt(6) == 0) {
            s.setCharAt(random.nextInt(s.length()), " ;!()|&<=>0123456789hfpsgwindeasx".charAt(random.nextInt(33)));
        }
        if (random.nextInt(12) == 0) {
            s.insert(random.nextInt(s.length()), " ;!()|&0123456789h\u00e9\u0000".charAt(random.nextInt(20)));
        }
        if (random.nextInt(12) == 0) {
            s.setLength(random.nextInt(s.length() + 1));
        }
        return s.length() <= 120 ? s.toString() : s.substring(0, random.nextInt(20) == 0 ? 120 : s.lastIndexOf(";", 119) + 1);
    }

    /** The tape as it is gets emptied first, by a law that is a fault or, at times, is none. */
    private void feedAndLaw() {
        feed('?', 1);
        law(0, 1);
        String text = text();
        if (text.endsWith(";") && random.nextInt(8) != 0) {
            text = text.substring(0, text.length() - 1);
        }
        byte[] bytes = text.getBytes(StandardCharsets.ISO_8859_1);
        for (int i = 0; i < bytes.length; i += 8) {
            int n = Math.min(8, bytes.length - i);
            long w = random.nextInt(256);
            for (int j = 0; j < n; j++) {
                w = w << 8 | bytes[i + j] & 255;
            }
            feed(w, n);
        }
        told = "law of '" + text + "'";
        law(near(0, 6), near(1, 9));
    }

    private void feed(long w, int n) {
        same("feed(" + w + ", " + n + ")", x.feed(w, n), m.feed(w, n));
    }

    private void law(int kind, int v) {
        same("law(" + kind + ", " + v + ")", x.law(kind, v), m.law(kind, v));
    }

    // ---- calls

    private void same(String call, int got, int want) {
        calls++;
        Due.due(call + " " + told, got, want);
    }

    private String pick() {
        int sum = 0;
        for (int o : OFTEN) {
            sum += o;
        }
        int r = random.nextInt(sum);
        int i = 0;
        while (r >= OFTEN[i]) {
            r -= OFTEN[i];
            i++;
        }
        return NAMES[i];
    }

    private void step(String run) {
        String name = pick();
        told = run + ", call " + calls + ", " + name;
        if (name.equals("text")) {
            if (m.count(1) < 8 || random.nextInt(20) == 0) {
                feedAndLaw();
            }
            return;
        }
        if (!stateCall(name) && !windsCall(name)) {
            filmCall(name);
        }
    }

    private boolean stateCall(String name) {
        switch (name) {
            case "stuff": {
                int a = near(1, 20);
                int b = near(1, 20);
                same("stuff " + a + " " + b, x.stuff(a, b), m.stuff(a, b));
                return true;
            }
            case "of": {
                int a = stuff();
                int b = near(0, 1);
                same("of " + a + " " + b, x.of(a, b), m.of(a, b));
                return true;
            }
            case "feed": feed(random.nextLong(), near(1, 8)); return true;
            case "law": law(near(0, 6), near(1, 9)); return true;
            case "told": {
                int a = law();
                int b = random.nextBoolean() ? near(0, 3) : near(11, 14);
                same("told " + a + " " + b, x.told(a, b), m.told(a, b));
                return true;
            }
            case "image": same("image", x.image(), m.image()); return true;
            case "undo": same("undo", x.undo(), m.undo()); return true;
            case "count": {
                int a = near(0, 6);
                same("count " + a, x.count(a), m.count(a));
                return true;
            }
            case "act": {
                int a = law();
                int b = near(0, 2);
                int c = random.nextBoolean() ? random.nextInt() : in(-9, 9);
                same("act " + a + " " + b + " " + c, x.act(a, b, c), m.act(a, b, c));
                return true;
            }
            case "trace": {
                int a = near(0, 5);
                same("trace " + a, x.trace(a), m.trace(a));
                return true;
            }
            case "as": {
                int a = law();
                int b = near(0, 6);
                same("as " + a + " " + b, x.as(a, b), m.as(a, b));
                return true;
            }
            default: return false;
        }
    }

    private boolean windsCall(String name) {
        int l = law();
        int s = stuff();
        int d = doing();
        int f = flow();
        String told = name + " " + l + " " + s + " " + d + " " + f + " ";
        switch (name) {
            case "winds": {
                int a = near(0, 2);
                same(told + a, x.winds(l, s, d, a), m.winds(l, s, d, a));
                return true;
            }
            case "tick": {
                int a = random.nextInt(30) == 0 ? -1 : d;
                same(told + a, x.tick(a), m.tick(a));
                return true;
            }
            case "run": {
                int a = random.nextInt(3) == 0 ? near(0, 2) : near(1, 3) * 100 + near(0, Math.max(0, m.count(3) - 1));
                same(told + a, x.run(l, s, a), m.run(l, s, a));
                return true;
            }
            case "curve": {
                int h = near(1, 60);
                boolean up = random.nextBoolean();
                same(told + h + " " + up, x.curve(l, s, f, h, up), m.curve(l, s, f, h, up));
                return true;
            }
            case "jumps": {
                int n = random.nextBoolean() ? near(1, 99) : near(1, 4);
                int a = near(0, 1);
                same(told + n + " " + a, x.jumps(l, s, f, n, a), m.jumps(l, s, f, n, a));
                return true;
            }
            case "several": {
                int a = near(0, 2);
                same(told + a, x.several(l, s, f, a), m.several(l, s, f, a));
                return true;
            }
            case "order": {
                int k = near(0, 4);
                same(told + k, x.order(l, s, d, k), m.order(l, s, d, k));
                return true;
            }
            case "bears": {
                int n = random.nextInt(3) == 0 ? -1 : near(0, 20);
                same(told + n, x.bears(l, s, d, n), m.bears(l, s, d, n));
                return true;
            }
            default: return false;
        }
    }

    private void filmCall(String name) {
        int l = law();
        int s = stuff();
        int d = doing();
        int f = flow();
        String told = name + " " + l + " " + s + " " + d + " " + f + " ";
        switch (name) {
            case "want": {
                int a = random.nextInt(6) == 0 ? -1 : near(0, 4);
                same(told + a, x.want(a), m.want(a));
                break;
            }
            case "found": {
                int n = random.nextInt(3) == 0 ? near(0, 8) : near(0, 99);
                for (int i = -1; i <= m.count(4); i++) {
                    same(told + n + " " + i, x.found(l, s, d, n, i), m.found(l, s, d, n, i));
                }
                break;
            }
            case "film": {
                int t = random.nextBoolean() && m.winds(l, s, d, 1) >= 0 ? m.winds(l, s, d, 1) : near(0, 999);
                same(told + t, x.film(s, d, t), m.film(s, d, t));
                break;
            }
            case "off": same(told, x.off(l), m.off(l)); break;
            case "which": same(told, x.which(), m.which()); break;
            case "fits": {
                int n = near(0, 99);
                same(told + n, x.fits(l, n), m.fits(l, n));
                break;
            }
            case "read": {
                int t = m.winds(l, s, 10000 * in(1, 60) + 100 * f + in(0, 99), 1);
                int form = near(0, 4);
                t = random.nextInt(8) == 0 ? near(0, 999) : t;
                for (int a = 0; a <= 2; a++) {
                    same(told + t + " " + form + " " + a, x.read(l, s, f, t, form, a), m.read(l, s, f, t, form, a));
                }
                break;
            }
            case "next": same(told, x.next(s, f), m.next(s, f)); break;
            default: {
                int s2 = stuff();
                int n = random.nextBoolean() ? near(1, 99) : near(1, 20);
                int fs = random.nextInt(20) == 0 ? random.nextInt() : 100 * f + flow();
                same(told + s2 + " " + n + " " + fs, x.two(l, s, s2, n, fs), m.two(l, s, s2, n, fs));
                break;
            }
        }
    }
}
