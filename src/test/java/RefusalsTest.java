import java.util.ArrayList;
import java.util.List;

/**
 * Part 4 of the document: of several REFUSALS the first one told is answered, and they change nothing.
 * Each refused call is done on one of two objects that were made alike; then both are looked at, by all that the
 * face tells, by THE TAPE taken for a LAW, and by THE IMAGE: they must answer alike.
 */
public final class RefusalsTest {
    private static final int NONE = -1, BAD = -2, STATE = -3, FULL = -4;
    // E nothing there; B some of each, no image; R some of each; F all full but THE TAPE; T THE TAPE full, a LAW free.
    private static final String ALL = "EBRFT", SOME = "BRFT";
    private static final int[] BAD_DOINGS = {-2, 0, 99, 500, 9999, 10000, 10099, 12100, 102100, 610100, -100500,
        Integer.MIN_VALUE, Integer.MAX_VALUE};
    private static final int[] BAD_FLOWS = {-1, 0, 21, 100, Integer.MIN_VALUE, Integer.MAX_VALUE};
    private static final int[] NO_LAWS = {-1, 8, Integer.MIN_VALUE, Integer.MAX_VALUE};
    private static final int[] NO_STUFFS = {-1, 5, Integer.MIN_VALUE, Integer.MAX_VALUE};
    private static final int OK = 100503;

    interface Call {
        int on(HoneyWinds x);
    }

    private static int rows = 0;

    public static void main(String[] args) {
        stuffsAndTape();
        laws();
        runs();
        curves();
        forms();
        row();
        films();
        reads();
        threads();
        actsAndImage();
        firstOneTold();
        refusedWhereNothingIs();
        callsThatChangeAreSeen();
        System.out.println(rows + " refusals were looked at");
        Due.end();
    }

    // ---- the worlds

    static HoneyWinds world(char name) {
        HoneyWinds x = new HoneyWinds();
        if (name == 'E') {
            return x;
        }
        x.stuff(4, 9);
        x.stuff(1, 20);
        Due.law(x, 5, 9, "wind 6 h>0;cool 3;form 2 7");
        Due.law(x, 4, 3, "wind 5 h>9|f=3;ease 2 p>5");
        x.film(0, 100500, 12);
        x.film(1, 310503, 40);
        ticks(x, 3);
        row(x, 3);
        Due.feed(x, "heap 4");
        if (name != 'B') {
            x.image();
        }
        x.stuff(20, 1);
        x.feed('7', 1);
        x.law(6, 2);
        x.film(2, 400900, 7);
        ticks(x, 2);
        row(x, 1);
        Due.feed(x, "cool 1");
        if (name == 'F' || name == 'T') {
            fill(x, name);
        }
        x.act(1, 2, 5);
        return x;
    }

    private static void fill(HoneyWinds x, char name) {
        x.stuff(7, 7);
        x.stuff(8, 8);
        x.law(1, 1);
        while (x.count(1) < (name == 'F' ? 8 : 7)) {
            Due.law(x, x.count(1) % 7, 2, "wind " + x.count(1) + " h>5");
        }
        for (int i = x.count(2); i < 12; i++) {
            x.film(i % 5, 10000 * (i + 1) + 700 + i, 3 * i);
        }
        ticks(x, 20 - x.count(3));
        row(x, 8 - x.count(4));
        String law = "cool 2;wind 9 h>0|" + "h>1|".repeat(24) + "h>60";
        Due.feed(x, name == 'F' ? "heap 5" : law.substring(0, 118) + "99");
    }

    private static void ticks(HoneyWinds x, int many) {
        for (int i = 0; i < many; i++) {
            int at = x.count(3);
            x.tick(10000 * (3 * at + 1) + 100 * (at % 20 + 1) + at);
        }
    }

    private static void row(HoneyWinds x, int many) {
        for (int i = 0; i < many; i++) {
            x.want(x.count(4) * 3 % 5);
        }
    }

    // ---- all that is there

    static List<Integer> lookAtAll(HoneyWinds x) {
        List<Integer> seen = new ArrayList<>();
        look(x, seen);
        seen.add(x.law(2, 8));
        lookAtLaw(x, x.count(1) - 1, seen);
        seen.add(x.undo());
        look(x, seen);
        seen.add(x.law(2, 8));
        lookAtLaw(x, x.count(1) - 1, seen);
        return seen;
    }

    private static void look(HoneyWinds x, List<Integer> seen) {
        int[] many = new int[7];
        for (int what = 0; what <= 6; what++) {
            many[what] = x.count(what);
            seen.add(many[what]);
        }
        for (int i = 0; i <= many[6]; i++) {
            seen.add(x.trace(i));
        }
        for (int i = 0; i <= many[0]; i++) {
            seen.add(x.of(i, 0));
            seen.add(x.of(i, 1));
        }
        for (int i = 0; i <= many[1]; i++) {
            lookAtLaw(x, i, seen);
        }
        for (int i = -1; i <= many[4]; i++) {
            seen.add(x.found(0, 0, OK, 99, i));
        }
        for (int what = 0; what <= 2; what++) {
            seen.add(x.run(0, 1, what));
        }
        for (int t = 0; t <= many[3]; t++) {
            seen.add(x.run(0, 1, 200 + t));
            seen.add(x.run(0, 1, 300 + t));
        }
        for (int n = 0; n <= 99; n += 11) {
            seen.add(x.fits(0, n));
        }
    }

    private static void lookAtLaw(HoneyWinds x, int law, List<Integer> seen) {
        for (int what : new int[] {0, 1, 2, 3, 12}) {
            seen.add(x.told(law, what));
        }
        seen.add(x.off(law));
    }

    private static void refused(String worlds, String call, int answer, Call c) {
        for (char name : worlds.toCharArray()) {
            rows++;
            HoneyWinds x = world(name);
            Due.due("world " + name + ", " + call, c.on(x), answer);
            List<Integer> seen = lookAtAll(x);
            List<Integer> due = lookAtAll(world(name));
            Due.due("world " + name + ", " + call + ": it changed something", seen.equals(due) ? 0 : 1, 0);
        }
    }

    // ---- what is refused

    private static void stuffsAndTape() {
        Due.sentence("stuff: BAD; FULL. of: NONE. feed: BAD: n not 1 .. 8; FULL. They change nothing.");
        int[] out = {-1, 0, 21, Integer.MIN_VALUE, Integer.MAX_VALUE};
        for (int n : out) {
            refused(ALL, "stuff(" + n + ", 5)", BAD, x -> x.stuff(n, 5));
            refused(ALL, "stuff(5, " + n + ")", BAD, x -> x.stuff(5, n));
        }
        refused("FT", "stuff(5, 5)", FULL, x -> x.stuff(5, 5));
        refused("FT", "stuff(1, 20)", FULL, x -> x.stuff(1, 20));
        for (int n : NO_STUFFS) {
            refused(ALL, "of(" + n + ", 0)", NONE, x -> x.of(n, 0));
        }
        int[] noWhats = {-1, 2, Integer.MIN_VALUE, Integer.MAX_VALUE};
        for (int n : noWhats) {
            refused(ALL, "of(0, " + n + ")", NONE, x -> x.of(0, n));
        }
        int[] sizes = {-1, 0, 9, Integer.MIN_VALUE, Integer.MAX_VALUE};
        for (int n : sizes) {
            refused(ALL, "feed(-1, " + n + ")", BAD, x -> x.feed(-1, n));
        }
        for (int n = 1; n <= 8; n++) {
            int size = n;
            refused("T", "feed(-1, " + n + ")", FULL, x -> x.feed(-1, size));
        }
    }

    private static void laws() {
        Due.sentence("law: NONE: kind; BAD: v; FULL. told: NONE. winds: NONE; BAD: doing. They change nothing.");
        int[] noKinds = {-1, 7, Integer.MIN_VALUE, Integer.MAX_VALUE};
        for (int n : noKinds) {
            refused(ALL, "law(" + n + ", 5)", NONE, x -> x.law(n, 5));
        }
        int[] out = {-1, 0, 10, Integer.MIN_VALUE, Integer.MAX_VALUE};
        for (int n : out) {
            refused(ALL, "law(0, " + n + ")", BAD, x -> x.law(0, n));
        }
        refused("F", "law(0, 5)", FULL, x -> x.law(0, 5));
        refused("F", "law(6, 9)", FULL, x -> x.law(6, 9));
        for (int n : NO_LAWS) {
            refused(ALL, "told(" + n + ", 0)", NONE, x -> x.told(n, 0));
            refused(ALL, "winds(" + n + ", 0, ..)", NONE, x -> x.winds(n, 0, OK, 0));
        }
        int[] noWhats = {-1, 4, 10, 15, Integer.MIN_VALUE, Integer.MAX_VALUE};
        for (int n : noWhats) {
            refused(ALL, "told(0, " + n + ")", NONE, x -> x.told(0, n));
            refused(ALL, "winds(0, 0, .., " + n + ")", NONE, x -> x.winds(0, 0, OK, n));
        }
        refused(ALL, "winds(0, 0, .., 3)", NONE, x -> x.winds(0, 0, OK, 3));
        for (int n : NO_STUFFS) {
            refused(ALL, "winds(0, " + n + ", ..)", NONE, x -> x.winds(0, n, OK, 0));
        }
        for (int n : BAD_DOINGS) {
            refused(SOME, "winds(0, 0, " + n + ", 1)", BAD, x -> x.winds(0, 0, n, 1));
        }
        refused(SOME, "winds(0, 0, -1, 2)", BAD, x -> x.winds(0, 0, -1, 2));
    }

    private static void runs() {
        Due.sentence("tick: BAD; FULL: 20. run: NONE. They change nothing.");
        for (int n : BAD_DOINGS) {
            refused(ALL, "tick(" + n + ")", BAD, x -> x.tick(n));
        }
        refused("FT", "tick(100500)", FULL, x -> x.tick(100500));
        refused("FT", "tick(602099)", FULL, x -> x.tick(602099));
        for (int n : NO_LAWS) {
            refused(ALL, "run(" + n + ", 0, 0)", NONE, x -> x.run(n, 0, 0));
        }
        for (int n : NO_STUFFS) {
            refused(ALL, "run(0, " + n + ", 0)", NONE, x -> x.run(0, n, 0));
        }
        int[] noWhats = {-1, 3, 99, 120, 199, 220, 299, 320, 399, 400, -100, Integer.MIN_VALUE, Integer.MAX_VALUE};
        for (int n : noWhats) {
            refused(ALL, "run(0, 0, " + n + ")", NONE, x -> x.run(0, 0, n));
        }
        refused("BR", "run(0, 0, 105)", NONE, x -> x.run(0, 0, 105));
        refused("BR", "run(0, 0, 205)", NONE, x -> x.run(0, 0, 205));
        refused("BR", "run(0, 0, 305)", NONE, x -> x.run(0, 0, 305));
    }

    private static void curves() {
        Due.sentence("curve: NONE; BAD: flow, height. jumps: NONE; BAD: flow, n. several: NONE; BAD. They change nothing.");
        for (int n : NO_LAWS) {
            refused(ALL, "curve(" + n + ", ..)", NONE, x -> x.curve(n, 0, 5, 5, true));
            refused(ALL, "jumps(" + n + ", ..)", NONE, x -> x.jumps(n, 0, 5, 5, 0));
            refused(ALL, "several(" + n + ", ..)", NONE, x -> x.several(n, 0, 5, 0));
        }
        for (int n : NO_STUFFS) {
            refused(ALL, "curve(0, " + n + ", ..)", NONE, x -> x.curve(0, n, 5, 5, false));
            refused(ALL, "jumps(0, " + n + ", ..)", NONE, x -> x.jumps(0, n, 5, 5, 1));
            refused(ALL, "several(0, " + n + ", ..)", NONE, x -> x.several(0, n, 5, 2));
        }
        for (int n : BAD_FLOWS) {
            refused(SOME, "curve by " + n, BAD, x -> x.curve(0, 0, n, 5, true));
            refused(SOME, "jumps by " + n, BAD, x -> x.jumps(0, 0, n, 5, 0));
            refused(SOME, "several by " + n, BAD, x -> x.several(0, 0, n, 0));
        }
        int[] heights = {-1, 0, 61, Integer.MIN_VALUE, Integer.MAX_VALUE};
        for (int n : heights) {
            refused(SOME, "curve at " + n, BAD, x -> x.curve(0, 0, 5, n, true));
            refused(SOME, "curve, going down, at " + n, BAD, x -> x.curve(0, 0, 5, n, false));
        }
        int[] ns = {-1, 0, 100, Integer.MIN_VALUE, Integer.MAX_VALUE};
        for (int n : ns) {
            refused(SOME, "jumps by n " + n, BAD, x -> x.jumps(0, 0, 5, n, 0));
        }
        int[] noWhats = {-1, 3, Integer.MIN_VALUE, Integer.MAX_VALUE};
        for (int n : noWhats) {
            refused(ALL, "jumps, what " + n, NONE, x -> x.jumps(0, 0, 5, 5, n));
            refused(ALL, "several, what " + n, NONE, x -> x.several(0, 0, 5, n));
        }
        refused(ALL, "jumps, what 2", NONE, x -> x.jumps(0, 0, 5, 5, 2));
    }

    private static void forms() {
        Due.sentence("order: NONE: law, stuff; BAD: doing, k. found: NONE: law, stuff, i; BAD. bears: NONE; BAD.");
        for (int n : NO_LAWS) {
            refused(ALL, "order(" + n + ", ..)", NONE, x -> x.order(n, 0, OK, 0));
            refused(ALL, "found(" + n + ", ..)", NONE, x -> x.found(n, 0, OK, 5, -1));
            refused(ALL, "bears(" + n + ", ..)", NONE, x -> x.bears(n, 0, OK, 5));
        }
        for (int n : NO_STUFFS) {
            refused(ALL, "order(0, " + n + ", ..)", NONE, x -> x.order(0, n, OK, 0));
            refused(ALL, "found(0, " + n + ", ..)", NONE, x -> x.found(0, n, OK, 5, -1));
            refused(ALL, "bears(0, " + n + ", ..)", NONE, x -> x.bears(0, n, OK, 5));
        }
        for (int n : BAD_DOINGS) {
            refused(SOME, "order in " + n, BAD, x -> x.order(0, 0, n, 0));
            refused(SOME, "found in " + n, BAD, x -> x.found(0, 0, n, 5, 0));
            refused(SOME, "bears in " + n, BAD, x -> x.bears(0, 0, n, 5));
        }
        int[] ks = {-1, 5, Integer.MIN_VALUE, Integer.MAX_VALUE};
        for (int n : ks) {
            refused(SOME, "order of " + n, BAD, x -> x.order(0, 0, OK, n));
        }
        int[] ns = {-1, 100, Integer.MIN_VALUE, Integer.MAX_VALUE};
        for (int n : ns) {
            refused(SOME, "found by " + n, BAD, x -> x.found(0, 0, OK, n, 0));
        }
        int[] is = {-2, 8, Integer.MIN_VALUE, Integer.MAX_VALUE};
        for (int n : is) {
            refused(ALL, "found, i " + n, NONE, x -> x.found(0, 0, OK, 5, n));
        }
        refused("BR", "found, i 4", NONE, x -> x.found(0, 0, OK, 5, 4));
        int[] bearNs = {-2, 21, Integer.MIN_VALUE, Integer.MAX_VALUE};
        for (int n : bearNs) {
            refused(SOME, "bears by " + n, BAD, x -> x.bears(0, 0, OK, n));
        }
    }

    private static void row() {
        Due.sentence("want: BAD; FULL: 8. They change nothing.");
        int[] bad = {-2, 5, Integer.MIN_VALUE, Integer.MAX_VALUE};
        for (int n : bad) {
            refused(ALL, "want(" + n + ")", BAD, x -> x.want(n));
        }
        for (int f = 0; f <= 4; f++) {
            int form = f;
            refused("FT", "want(" + f + ")", FULL, x -> x.want(form));
        }
    }

    private static void films() {
        Due.sentence("film: NONE: stuff; BAD; FULL. off: NONE. fits: NONE; BAD. They change nothing.");
        for (int n : NO_STUFFS) {
            refused(ALL, "film(" + n + ", ..)", NONE, x -> x.film(n, OK, 5));
        }
        for (int n : BAD_DOINGS) {
            refused(SOME, "film in " + n, BAD, x -> x.film(0, n, 5));
        }
        int[] turns = {-1, 1000, Integer.MIN_VALUE, Integer.MAX_VALUE};
        for (int n : turns) {
            refused(SOME, "film of " + n, BAD, x -> x.film(0, OK, n));
        }
        refused("FT", "film(0, .., 0)", FULL, x -> x.film(0, OK, 0));
        refused("FT", "film(4, .., 999)", FULL, x -> x.film(4, OK, 999));
        for (int n : NO_LAWS) {
            refused(ALL, "off(" + n + ")", NONE, x -> x.off(n));
            refused(ALL, "fits(" + n + ", 5)", NONE, x -> x.fits(n, 5));
        }
        int[] ns = {-1, 100, Integer.MIN_VALUE, Integer.MAX_VALUE};
        for (int n : ns) {
            refused(SOME, "fits(0, " + n + ")", BAD, x -> x.fits(0, n));
        }
    }

    private static void reads() {
        Due.sentence("read: NONE: law, stuff, what; BAD. next: NONE; BAD: flow. They change nothing.");
        for (int n : NO_LAWS) {
            refused(ALL, "read(" + n + ", ..)", NONE, x -> x.read(n, 0, 5, 5, 0, 0));
        }
        for (int n : NO_STUFFS) {
            refused(ALL, "read(0, " + n + ", ..)", NONE, x -> x.read(0, n, 5, 5, 0, 0));
            refused(ALL, "next(" + n + ", 5)", NONE, x -> x.next(n, 5));
        }
        for (int n : BAD_FLOWS) {
            refused(SOME, "read by " + n, BAD, x -> x.read(0, 0, n, 5, 0, 0));
            refused(SOME, "next by " + n, BAD, x -> x.next(0, n));
        }
        int[] turns = {-1, 1000, Integer.MIN_VALUE, Integer.MAX_VALUE};
        for (int n : turns) {
            refused(SOME, "read by TURNS " + n, BAD, x -> x.read(0, 0, 5, n, 0, 1));
        }
        int[] forms = {-1, 5, Integer.MIN_VALUE, Integer.MAX_VALUE};
        for (int n : forms) {
            refused(SOME, "read by FORM " + n, BAD, x -> x.read(0, 0, 5, 5, n, 2));
        }
        int[] noWhats = {-1, 3, Integer.MIN_VALUE, Integer.MAX_VALUE};
        for (int n : noWhats) {
            refused(ALL, "read, what " + n, NONE, x -> x.read(0, 0, 5, 5, 0, n));
        }
    }

    private static void threads() {
        Due.sentence("two: NONE: law, stuffs; BAD: d, flows. They change nothing.");
        for (int n : NO_LAWS) {
            refused(ALL, "two(" + n + ", ..)", NONE, x -> x.two(n, 0, 0, 5, 505));
        }
        for (int n : NO_STUFFS) {
            refused(ALL, "two(0, " + n + ", ..)", NONE, x -> x.two(0, n, 0, 5, 505));
            refused(ALL, "two(0, 0, " + n + ", ..)", NONE, x -> x.two(0, 0, n, 5, 505));
        }
        int[] ds = {-1, 0, 100, Integer.MIN_VALUE, Integer.MAX_VALUE};
        for (int n : ds) {
            refused(SOME, "two, d " + n, BAD, x -> x.two(0, 0, 1, n, 505));
        }
        int[] flows = {-505, -1, 0, 5, 99, 100, 500, 521, 599, 2100, 2105, 2021, 10505, Integer.MIN_VALUE, Integer.MAX_VALUE};
        for (int n : flows) {
            refused(SOME, "two, flows " + n, BAD, x -> x.two(0, 0, 1, 5, n));
        }
    }

    private static void actsAndImage() {
        Due.sentence("trace: NONE. as: NONE: law, k. undo: STATE: there is none. count: NONE. They change nothing.");
        int[] is = {-1, 6, 20, Integer.MIN_VALUE, Integer.MAX_VALUE};
        for (int n : is) {
            refused(ALL, "trace(" + n + ")", NONE, x -> x.trace(n));
        }
        for (int n : NO_LAWS) {
            refused(ALL, "as(" + n + ", 0)", NONE, x -> x.as(n, 0));
        }
        int[] ks = {-1, 7, Integer.MIN_VALUE, Integer.MAX_VALUE};
        for (int n : ks) {
            refused(ALL, "as(0, " + n + ")", NONE, x -> x.as(0, n));
            refused(ALL, "count(" + n + ")", NONE, x -> x.count(n));
        }
        refused("EB", "undo()", STATE, x -> x.undo());
    }

    /** Of two that a call is refused by, the first one told: NONE, BAD, STATE, FULL. */
    private static void firstOneTold() {
        Due.sentence("REFUSALS, of several the first one told: NONE .., BAD .., STATE as told; FULL.");
        refused("FT", "stuff(0, 5), full", BAD, x -> x.stuff(0, 5));
        refused("FT", "stuff(5, 21), full", BAD, x -> x.stuff(5, 21));
        refused("T", "feed(0, 0), full", BAD, x -> x.feed(0, 0));
        refused("T", "feed(0, 9), full", BAD, x -> x.feed(0, 9));
        refused(ALL, "law(7, 0)", NONE, x -> x.law(7, 0));
        refused(ALL, "law(-1, 10)", NONE, x -> x.law(-1, 10));
        refused("F", "law(7, 5), full", NONE, x -> x.law(7, 5));
        refused("F", "law(0, 10), full", BAD, x -> x.law(0, 10));
        refused(ALL, "winds(8, 0, 0, 0)", NONE, x -> x.winds(8, 0, 0, 0));
        refused(ALL, "winds(0, 5, 0, 0)", NONE, x -> x.winds(0, 5, 0, 0));
        refused(ALL, "winds(0, 0, 0, 3)", NONE, x -> x.winds(0, 0, 0, 3));
        refused("FT", "tick(0), full", BAD, x -> x.tick(0));
        refused("FT", "tick(-2), full", BAD, x -> x.tick(-2));
        refused(ALL, "curve(8, 0, 0, 0)", NONE, x -> x.curve(8, 0, 0, 0, true));
        refused(ALL, "curve(0, 5, 0, 0)", NONE, x -> x.curve(0, 5, 0, 0, true));
        refused(ALL, "jumps(8, 0, 0, 0, 0)", NONE, x -> x.jumps(8, 0, 0, 0, 0));
        refused(ALL, "jumps(0, 5, 0, 0, 0)", NONE, x -> x.jumps(0, 5, 0, 0, 0));
        refused(ALL, "jumps(0, 0, 0, 0, 2)", NONE, x -> x.jumps(0, 0, 0, 0, 2));
        refused(ALL, "several(8, 0, 0, 0)", NONE, x -> x.several(8, 0, 0, 0));
        refused(ALL, "several(0, 5, 0, 0)", NONE, x -> x.several(0, 5, 0, 0));
        refused(ALL, "several(0, 0, 0, 3)", NONE, x -> x.several(0, 0, 0, 3));
        refused(ALL, "order(8, 0, 0, 5)", NONE, x -> x.order(8, 0, 0, 5));
        refused(ALL, "order(0, 5, 0, 5)", NONE, x -> x.order(0, 5, 0, 5));
        refused("FT", "want(5), full", BAD, x -> x.want(5));
        refused(ALL, "found(8, 0, 0, 100, 0)", NONE, x -> x.found(8, 0, 0, 100, 0));
        refused(ALL, "found(0, 5, 0, 100, 0)", NONE, x -> x.found(0, 5, 0, 100, 0));
        refused(ALL, "found(0, 0, 0, 100, 8)", NONE, x -> x.found(0, 0, 0, 100, 8));
        refused(ALL, "bears(8, 0, 0, 21)", NONE, x -> x.bears(8, 0, 0, 21));
        refused(ALL, "bears(0, 5, 0, 21)", NONE, x -> x.bears(0, 5, 0, 21));
        refused(ALL, "film(5, 0, 1000)", NONE, x -> x.film(5, 0, 1000));
        refused("FT", "film(5, .., 5), full", NONE, x -> x.film(5, OK, 5));
        refused("FT", "film(0, 0, 5), full", BAD, x -> x.film(0, 0, 5));
        refused("FT", "film(0, .., 1000), full", BAD, x -> x.film(0, OK, 1000));
        refused(ALL, "fits(8, 100)", NONE, x -> x.fits(8, 100));
        refused(ALL, "read(8, 0, 0, 1000, 5, 0)", NONE, x -> x.read(8, 0, 0, 1000, 5, 0));
        refused(ALL, "read(0, 5, 0, 1000, 5, 0)", NONE, x -> x.read(0, 5, 0, 1000, 5, 0));
        refused(ALL, "read(0, 0, 0, 1000, 5, 3)", NONE, x -> x.read(0, 0, 0, 1000, 5, 3));
        refused(ALL, "next(5, 0)", NONE, x -> x.next(5, 0));
        refused(ALL, "two(8, 0, 0, 0, 0)", NONE, x -> x.two(8, 0, 0, 0, 0));
        refused(ALL, "two(0, 5, 0, 0, 0)", NONE, x -> x.two(0, 5, 0, 0, 0));
        refused(ALL, "two(0, 0, 5, 0, 0)", NONE, x -> x.two(0, 0, 5, 0, 0));
    }

    /** Where no STUFFS and no LAWS are, the least of their numbers is refused, too. */
    private static void refusedWhereNothingIs() {
        Due.sentence("NONE there is no such STUFF, LAW, FILM, KIND, what, i");
        refused("E", "of(0, 0)", NONE, x -> x.of(0, 0));
        refused("E", "told(0, 0)", NONE, x -> x.told(0, 0));
        refused("E", "winds(0, 0, ..)", NONE, x -> x.winds(0, 0, OK, 0));
        refused("E", "run(0, 0, 0)", NONE, x -> x.run(0, 0, 0));
        refused("E", "curve(0, 0, ..)", NONE, x -> x.curve(0, 0, 5, 5, true));
        refused("E", "jumps(0, 0, ..)", NONE, x -> x.jumps(0, 0, 5, 5, 0));
        refused("E", "several(0, 0, ..)", NONE, x -> x.several(0, 0, 5, 0));
        refused("E", "order(0, 0, ..)", NONE, x -> x.order(0, 0, OK, 0));
        refused("E", "found(0, 0, ..)", NONE, x -> x.found(0, 0, OK, 5, -1));
        refused("E", "bears(0, 0, ..)", NONE, x -> x.bears(0, 0, OK, 5));
        refused("E", "film(0, ..)", NONE, x -> x.film(0, OK, 5));
        refused("E", "off(0)", NONE, x -> x.off(0));
        refused("E", "fits(0, 5)", NONE, x -> x.fits(0, 5));
        refused("E", "read(0, 0, ..)", NONE, x -> x.read(0, 0, 5, 5, 0, 0));
        refused("E", "next(0, 5)", NONE, x -> x.next(0, 5));
        refused("E", "two(0, 0, 0, ..)", NONE, x -> x.two(0, 0, 0, 5, 505));
        refused("E", "trace(0)", NONE, x -> x.trace(0));
        refused("E", "as(0, 0)", NONE, x -> x.as(0, 0));
        refused("BR", "of(3, 0)", NONE, x -> x.of(3, 0));
        refused("BR", "told(3, 0)", NONE, x -> x.told(3, 0));
        refused("BR", "off(3)", NONE, x -> x.off(3));
        refused("BR", "film(3, ..)", NONE, x -> x.film(3, OK, 5));
    }

    /** The look itself: it must tell an object that was changed from one that was not. */
    private static void callsThatChangeAreSeen() {
        Due.sentence("what changes something must be seen by this test's look");
        List<Integer> due = lookAtAll(world('R'));
        Call[] changes = {x -> x.stuff(1, 1), x -> x.feed('0', 1), x -> x.law(0, 1), x -> x.tick(-1), x -> x.tick(OK),
            x -> x.want(-1), x -> x.want(1), x -> x.film(0, OK, 5), x -> x.act(0, 0, 1), x -> x.act(9, 0, 1), x -> x.image(),
            x -> x.undo()};
        for (int i = 0; i < changes.length; i++) {
            HoneyWinds x = world('R');
            changes[i].on(x);
            Due.due("change " + i + " is not seen", lookAtAll(x).equals(due) ? 1 : 0, 0);
        }
        for (String name : new String[] {"E", "B", "R", "F", "T"}) {
            HoneyWinds x = world(name.charAt(0));
            int laws = name.equals("E") ? 0 : name.equals("F") ? 8 : name.equals("T") ? 7 : 3;
            Due.due("world " + name + ": LAWS", x.count(1), laws);
            Due.due("world " + name + ": bytes", x.count(5), name.equals("E") ? 0 : name.equals("T") ? 120 : 6);
        }
    }
}
