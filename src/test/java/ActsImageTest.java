/** Promises 24 to 29: act, trace, as, image, undo, count. */
public final class ActsImageTest {
    public static void main(String[] args) {
        act();
        actNumbersAndWrapping();
        actRefusals();
        as();
        image();
        imageOfAll();
        undoKeepsTheTrace();
        count();
        Due.end();
    }

    private static void due(String call, long got, long want) {
        Due.due(call, got, want);
    }

    /** A law of each kind: law i is of kind i, and its v is i and 3. */
    private static HoneyWinds withKinds() {
        HoneyWinds x = new HoneyWinds();
        for (int kind = 0; kind <= 6; kind++) {
            Due.law(x, kind, kind + 3, "wind 1 h>0");
        }
        return x;
    }

    private static void acts(HoneyWinds x, int law, int act, int with, int answer, int... bodies) {
        String call = "act(" + law + ", " + act + ", " + with + ")";
        due(call, x.act(law, act, with), answer);
        due(call + ": count(6)", x.count(6), bodies.length);
        for (int i = 0; i < bodies.length; i++) {
            due(call + ": trace(" + i + ")", x.trace(i), bodies[i]);
        }
        due(call + ": trace behind the last", x.trace(bodies.length), -1);
        due(call + ": trace(-1)", x.trace(-1), -1);
    }

    // Promises 24 and 25
    private static void act() {
        HoneyWinds x = withKinds();
        acts(x, 0, 0, 5, 5, 1);
        acts(x, 0, 1, 5, 2, 2, 1);
        acts(x, 0, 2, 5, 4, 3, 2, 1);
        acts(x, 1, 0, 5, 16, 11, 1);
        acts(x, 1, 1, 5, 12, 2, 11, 1);
        acts(x, 1, 2, 5, 24, 3, 2, 11, 1);
        acts(x, 2, 0, 5, 7, 1);
        acts(x, 2, 1, 5, -2, 21, 2, 1);
        acts(x, 2, 2, 5, -4, 3, 21, 2, 1);
        acts(x, 3, 0, 5, 8, 1);
        acts(x, 3, 1, 5, 2, 2, 1);
        acts(x, 3, 2, 5, 3, 31, 3, 2, 1);
        acts(x, 4, 0, 5, 9, 1);
        acts(x, 4, 1, 5, -2, 21, 2, 1);
        acts(x, 4, 2, 5, 4, 41, 3, 21, 2, 1, 1);
        acts(x, 5, 0, 5, 15, 51, 1);
        acts(x, 5, 1, 5, -7, 21, 2, 51, 1);
        acts(x, 5, 2, 5, -14, 3, 21, 2, 51, 1);
        acts(x, 6, 0, 5, 11, 1);
        acts(x, 6, 1, 5, 11, 61, 2, 1);
        acts(x, 6, 2, 5, 17, 31, 3, 61, 2, 1);
    }

    private static void actNumbersAndWrapping() {
        HoneyWinds x = withKinds();
        Due.law(x, 4, 9, "wind 1 h>0");
        acts(x, 0, 1, Integer.MIN_VALUE, Integer.MAX_VALUE - 2, 2, 1);
        acts(x, 0, 2, 0x40000003, Integer.MIN_VALUE, 3, 2, 1);
        acts(x, 1, 0, Integer.MAX_VALUE, 2147483646, 11, 1);
        acts(x, 7, 0, Integer.MAX_VALUE, Integer.MIN_VALUE + 6, 1);
        // -(-1 and 7, less 9) is 3, 6 by two; and 2 and 7.
        acts(x, 7, 2, 0, 6 + 9, 41, 3, 21, 2, 1, 1);
        acts(x, 3, 2, -5, (-5 + 3 - 6) * 2 ^ 7, 31, 3, 2, 1);
        acts(x, 5, 0, -6, -1 ^ 5, 51, 1);
    }

    private static void actRefusals() {
        HoneyWinds x = new HoneyWinds();
        acts(x, 0, 0, 5, 0);
        Due.law(x, 0, 3, "wind 1 h>0");
        due("act(0, 2, 50)", x.act(0, 2, 50), 94);
        acts(x, 1, 2, 5, 0);
        due("act(0, 2, 50)", x.act(0, 2, 50), 94);
        acts(x, -1, 2, 5, 0);
        due("act(0, 2, 50)", x.act(0, 2, 50), 94);
        acts(x, 0, 3, 5, 0);
        due("act(0, 2, 50)", x.act(0, 2, 50), 94);
        acts(x, 0, -1, 5, 0);
        due("trace(max)", x.trace(Integer.MAX_VALUE), -1);
        due("trace(min)", x.trace(Integer.MIN_VALUE), -1);
    }

    // Promise 26
    private static void as() {
        HoneyWinds x = withKinds();
        boolean[][] under = new boolean[7][7];
        int[] above = {-1, 0, 0, 0, 2, 2, 3};
        for (int kind = 0; kind <= 6; kind++) {
            for (int k = kind; k >= 0; k = above[k]) {
                under[kind][k] = true;
            }
        }
        for (int law = 0; law <= 6; law++) {
            for (int k = 0; k <= 6; k++) {
                due("as(" + law + ", " + k + ")", x.as(law, k), under[law][k] ? law + 3 : -6);
            }
            due("as(" + law + ", 7)", x.as(law, 7), -1);
            due("as(" + law + ", -1)", x.as(law, -1), -1);
        }
        due("as(7, 0)", x.as(7, 0), -1);
        due("as(-1, 0)", x.as(-1, 0), -1);
    }

    // Promises 27 and 28
    private static void image() {
        HoneyWinds x = new HoneyWinds();
        due("undo, no image", x.undo(), -3);
        due("image of no laws", x.image(), 0);
        Due.law(x, 0, 1, "wind 1 h>0");
        x.stuff(1, 1);
        due("undo", x.undo(), 0);
        due("undo: count(0)", x.count(0), 0);
        due("undo: count(1)", x.count(1), 0);
        due("undo again", x.undo(), 0);
        Due.law(x, 2, 4, "heap 7");
        due("image of one law", x.image(), 1);
        Due.law(x, 3, 5, "heap 8");
        due("undo", x.undo(), 1);
        due("undo: told(1, 0)", x.told(1, 0), -1);
        due("another law", Due.law(x, 6, 9, "heap 9"), 1);
        due("another law: told(1, 0)", x.told(1, 0), 6);
        due("undo once more", x.undo(), 1);
        due("undo: told(0, 0)", x.told(0, 0), 2);
        due("undo: told(0, 1)", x.told(0, 1), 4);
        due("undo: told(0, 2)", x.told(0, 2), 7);
        due("undo: told(1, 0)", x.told(1, 0), -1);
    }

    private static void imageOfAll() {
        HoneyWinds x = new HoneyWinds();
        x.stuff(4, 9);
        Due.law(x, 0, 1, "wind 10 h>0");
        x.film(0, 100500, 12);
        x.tick(100500);
        x.tick(200508);
        x.want(1);
        x.want(3);
        Due.feed(x, "heap ");
        due("image", x.image(), 1);
        for (int i = 0; i < 2; i++) {
            x.stuff(20, 20);
            x.feed('x', 1);
            x.law(0, 1);
            Due.law(x, 0, 1, "wind 99 h>0");
            x.film(0, 100500, 999);
            x.tick(-1);
            x.tick(300503);
            x.want(-1);
            x.want(4);
            due("undo", x.undo(), 1);
            due("undo: STUFFS", x.count(0), 1);
            due("undo: STIFF", x.of(0, 0), 4);
            due("undo: a STUFF that is no more", x.of(1, 0), -1);
            due("undo: a LAW that is no more", x.off(1), -1);
            due("undo: LAWS", x.count(1), 1);
            due("undo: FILMS", x.count(2), 1);
            due("undo: OFF", x.off(0), 2);
            due("undo: TICKS", x.count(3), 2);
            due("undo: FORM of TICK 0", x.run(0, 0, 100), 0);
            due("undo: FORM of TICK 1", x.run(0, 0, 101), 2);
            due("undo: the ROW", x.count(4), 2);
            due("undo: FOUND", x.found(0, 0, 100500, 99, 0), 5);
            due("undo: FOUND", x.found(0, 0, 100500, 99, 1), 9);
            due("undo: THE TAPE", x.count(5), 5);
        }
        x.feed('7', 1);
        due("undo: THE TAPE's bytes", x.law(0, 1), 1);
        due("undo: told(1, 2)", x.told(1, 2), 7);
    }

    private static void undoKeepsTheTrace() {
        HoneyWinds x = withKinds();
        x.image();
        x.act(5, 0, 1);
        due("undo", x.undo(), 7);
        due("undo: count(6)", x.count(6), 2);
        due("undo: trace(0)", x.trace(0), 51);
        due("undo: trace(1)", x.trace(1), 1);
        HoneyWinds y = new HoneyWinds();
        y.image();
        Due.law(y, 0, 1, "wind 1 h>0");
        y.act(0, 1, 1);
        due("undo of the law", y.undo(), 0);
        due("undo: trace(0)", y.trace(0), 2);
        due("undo: trace(1)", y.trace(1), 1);
        due("undo: count(6)", y.count(6), 2);
    }

    // Promise 29
    private static void count() {
        HoneyWinds x = new HoneyWinds();
        x.stuff(1, 1);
        Due.law(x, 0, 1, "wind 1 h>0");
        Due.law(x, 0, 1, "wind 1 h>0");
        for (int i = 0; i < 3; i++) {
            x.film(0, 100500, 1);
        }
        for (int i = 0; i < 4; i++) {
            x.tick(100500);
        }
        for (int i = 0; i < 5; i++) {
            x.want(1);
        }
        Due.feed(x, "wind 1");
        x.act(0, 2, 1);
        int[] due = {1, 2, 3, 4, 5, 6, 3};
        for (int what = 0; what <= 6; what++) {
            due("count(" + what + ")", x.count(what), due[what]);
        }
        due("count(7)", x.count(7), -1);
        due("count(-1)", x.count(-1), -1);
        due("count(max)", x.count(Integer.MAX_VALUE), -1);
    }
}
