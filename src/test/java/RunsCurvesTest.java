/** Promises 8 to 12: tick, run, curve, jumps, several. */
public final class RunsCurvesTest {
    public static void main(String[] args) {
        tick();
        runRefusals();
        runTurnsAndForms();
        runEither();
        runSkinned();
        runHeap();
        curve();
        curveEither();
        jumps();
        several();
        severalAtTheEnds();
        Due.end();
    }

    private static void due(String call, long got, long want) {
        Due.due(call, got, want);
    }

    private static HoneyWinds withStuffs() {
        HoneyWinds x = new HoneyWinds();
        x.stuff(4, 9);
        x.stuff(20, 1);
        x.stuff(1, 20);
        return x;
    }

    // Promise 8
    private static void tick() {
        HoneyWinds x = new HoneyWinds();
        int[] bad = {-2, 0, 10000, 10099, 12100, 500, 610100, Integer.MIN_VALUE, Integer.MAX_VALUE};
        for (int b : bad) {
            due("tick(" + b + ")", x.tick(b), -2);
        }
        due("bad ticks: count(3)", x.count(3), 0);
        due("tick(-1) of an empty run", x.tick(-1), 0);
        for (int i = 1; i <= 20; i++) {
            due("tick " + i, x.tick(i % 2 == 0 ? 10100 : 602099), i);
        }
        due("tick 21", x.tick(10100), -4);
        due("tick 21, bad", x.tick(10000), -2);
        due("full: count(3)", x.count(3), 20);
        due("tick(-1)", x.tick(-1), 0);
        due("tick(-1): count(3)", x.count(3), 0);
        due("tick anew", x.tick(10100), 1);
    }

    // Promise 9
    private static void runRefusals() {
        HoneyWinds x = withStuffs();
        due("run, no law", x.run(0, 0, 0), -1);
        Due.law(x, 0, 1, "wind 10 h>0");
        for (int what = 0; what <= 2; what++) {
            due("run of none, what " + what, x.run(0, 0, what), 0);
        }
        due("run of none, 100", x.run(0, 0, 100), -1);
        x.tick(100500);
        x.tick(100500);
        int[] none = {-1, 3, 4, 50, 99, 102, 103, 120, 199, 202, 220, 302, 399, 400, 401, -100, Integer.MIN_VALUE,
            Integer.MAX_VALUE};
        for (int what : none) {
            due("run(0, 0, " + what + ")", x.run(0, 0, what), -1);
        }
        due("run(1, 0, 0)", x.run(1, 0, 0), -1);
        due("run(-1, 0, 0)", x.run(-1, 0, 0), -1);
        due("run(0, 3, 0)", x.run(0, 3, 0), -1);
        due("run(0, -1, 0)", x.run(0, -1, 0), -1);
        due("run(0, 0, 1)", x.run(0, 0, 1), 20);
        x.tick(-1);
        due("emptied: run(0, 0, 1)", x.run(0, 0, 1), 0);
        due("emptied: run(0, 0, 2)", x.run(0, 0, 2), 0);
        due("emptied: run(0, 0, 200)", x.run(0, 0, 200), -1);
        for (int i = 0; i < 20; i++) {
            x.tick(100500 + i);
        }
        due("20: run(0, 0, 2)", x.run(0, 0, 2), 4);
        due("the last of 20: run(0, 0, 119)", x.run(0, 0, 119), 4);
        due("the last of 20: run(0, 0, 219)", x.run(0, 0, 219), 10);
        due("the last of 20: run(0, 0, 319)", x.run(0, 0, 319), 0);
        x.tick(-1);
        x.tick(100599);
        x.tick(100500);
        due("anew: run(0, 0, 2)", x.run(0, 0, 2), 1);
        due("anew: run(0, 0, 1)", x.run(0, 0, 1), 20);
        due("anew: run(0, 0, 102)", x.run(0, 0, 102), -1);
    }

    private static void runTurnsAndForms() {
        HoneyWinds x = withStuffs();
        Due.law(x, 0, 1, "wind 10 h>0;wind 20 p>50");
        int[] doings = {100500, 100503, 100504, 100512, 100551, 100550, 100500};
        int[] forms = {0, 1, 1, 4, 4, 4, 0};
        int[] turns = {10, 10, 10, 10, 30, 10, 10};
        for (int i = 0; i < doings.length; i++) {
            x.tick(doings[i]);
        }
        for (int i = 0; i < doings.length; i++) {
            due("FORM of TICK " + i, x.run(0, 0, 100 + i), forms[i]);
            due("TURNS of TICK " + i, x.run(0, 0, 200 + i), turns[i]);
        }
        due("all TURNS", x.run(0, 0, 1), 90);
        due("how often FORM changes", x.run(0, 0, 2), 3);
    }

    private static void runEither() {
        HoneyWinds x = withStuffs();
        Due.law(x, 4, 4, "wind 10 h>0");
        // STUFF 1: 1 times 4 over 20 is 0, so TURNS are 10, or 14 when HIGH: above 40, until below 20.
        int[] heights = {40, 30, 41, 40, 20, 19, 20, 40, 60, 1};
        int[] turns = {10, 10, 14, 14, 14, 10, 10, 10, 14, 10};
        for (int h : heights) {
            x.tick(h * 10000 + 500);
        }
        for (int i = 0; i < heights.length; i++) {
            due("EITHER in TICK " + i, x.run(0, 1, 200 + i), turns[i]);
        }
        due("EITHER, all TURNS", x.run(0, 1, 1), 116);
        due("another's STUFF: 9 by 1", x.run(0, 0, 202), 10 + 9 + 4);
    }

    private static void runSkinned() {
        HoneyWinds x = withStuffs();
        Due.law(x, 5, 9, "wind 1 s=1;wind 1 s=20;cool 30");
        Due.law(x, 2, 9, "wind 1 s=1;cool 30");
        Due.law(x, 5, 9, "wind 1 s=1");
        for (int i = 0; i < 6; i++) {
            x.tick(100500);
        }
        // STUFF 2: 180 by 1, 31, 61, 91, then 99 for good.
        int[] turns = {181, 6, 3, 2, 2, 2};
        for (int i = 0; i < turns.length; i++) {
            due("SKINNED in TICK " + i, x.run(0, 2, 200 + i), turns[i]);
            due("HANGING does not cool in TICK " + i, x.run(1, 2, 200 + i), 181);
            due("SKINNED without cool in TICK " + i, x.run(2, 2, 200 + i), 181);
        }
        due("SKINNED outside the RUN", x.winds(0, 2, 100500, 1), 181);

        HoneyWinds y = new HoneyWinds();
        y.stuff(3, 20);
        Due.law(y, 5, 5, "cool 49");
        y.tick(100500);
        y.tick(100500);
        y.tick(100500);
        due("SKINNED, 100 by 3", y.run(0, 0, 200), 34);
        due("SKINNED, 100 by 52", y.run(0, 0, 201), 2);
        due("SKINNED, 100 by 99, not by 101", y.run(0, 0, 202), 2);
        y.stuff(3, 11);
        Due.law(y, 5, 9, "cool 99");
        due("SKINNED, 99 by 99", y.run(1, 1, 201), 2);
        y.stuff(3, 14);
        Due.law(y, 5, 7, "cool 99");
        due("SKINNED, 98 by 99", y.run(2, 2, 201), 1);
    }

    private static void runHeap() {
        HoneyWinds x = withStuffs();
        Due.law(x, 0, 1, "wind 10 h>0;heap 12");
        Due.law(x, 0, 1, "wind 10 h>0");
        Due.law(x, 0, 1, "wind 10 h>0;heap 0");
        int[] doings = {100700, 100500, 100300, 101203, 100100, 101000, 100900, 100512, 100600, 100706, 100600, 100100};
        int[] heaps = {7, 12, 0, 0, 1, 11, 0, 0, 6, 6, 12, 0};
        int[] heapsOf20 = {7, 12, 15, 15, 16, 0, 9, 0, 6, 6, 12, 13};
        for (int d : doings) {
            x.tick(d);
        }
        for (int i = 0; i < doings.length; i++) {
            due("HEAP 12 behind TICK " + i, x.run(0, 0, 300 + i), heaps[i]);
            due("HEAP 20 behind TICK " + i, x.run(1, 0, 300 + i), heapsOf20[i]);
            due("HEAP 0 behind TICK " + i, x.run(2, 0, 300 + i), 0);
        }
        due("HEAP 12 topples", x.run(0, 0, 0), 3);
        due("HEAP 20 topples", x.run(1, 0, 0), 1);
        due("HEAP 0 topples", x.run(2, 0, 0), 9);
        due("FORM changes", x.run(0, 0, 2), 6);
    }

    // Promise 10
    private static void curve() {
        HoneyWinds x = withStuffs();
        Due.law(x, 0, 1, "wind 10 h>30;wind 5 f=7;wind 3 p>0");
        Due.law(x, 3, 1, "wind 10 h>0");
        Due.law(x, 5, 9, "wind 1 h>0;cool 50");
        due("curve(3, ..)", x.curve(3, 0, 5, 1, true), -1);
        due("curve(-1, ..)", x.curve(-1, 0, 5, 1, true), -1);
        due("curve, stuff 3", x.curve(0, 3, 5, 1, true), -1);
        due("curve, stuff -1", x.curve(0, -1, 5, 1, false), -1);
        due("curve, stuff 3 and flow 0", x.curve(0, 3, 0, 1, true), -1);
        int[][] bad = {{0, 1}, {21, 1}, {-1, 1}, {5, 0}, {5, 61}, {5, -1}, {Integer.MAX_VALUE, 1}, {5, Integer.MIN_VALUE}};
        for (int[] b : bad) {
            due("curve, flow " + b[0] + ", height " + b[1], x.curve(0, 0, b[0], b[1], true), -2);
            due("curve down, flow " + b[0] + ", height " + b[1], x.curve(0, 0, b[0], b[1], false), -2);
        }
        for (int i = 0; i < 2; i++) {
            boolean up = i == 0;
            due("curve at 30, " + up, x.curve(0, 0, 7, 30, up), 5);
            due("curve at 31, " + up, x.curve(0, 0, 7, 31, up), 15);
            due("curve at 31 by flow 8, " + up, x.curve(0, 0, 8, 31, up), 10);
            due("curve at 1 by flow 20, " + up, x.curve(0, 0, 20, 1, up), 1);
            due("curve of FLUNG, " + up, x.curve(1, 2, 20, 60, up), 130);
            due("curve of FLUNG at 1, " + up, x.curve(1, 2, 20, 1, up), 12);
            due("nothing cools, " + up, x.curve(2, 2, 5, 30, up), 181);
        }
    }

    // STUFF 1: 1 times v over 20 is 0, so TURNS are 10, and v more when HIGH.
    private static void curveEither() {
        for (int v = 1; v <= 9; v++) {
            HoneyWinds x = withStuffs();
            Due.law(x, 4, v, "wind 10 h>0");
            for (int h = 1; h <= 60; h++) {
                due("curve of v " + v + " at " + h + " up", x.curve(0, 1, 5, h, true), 10 + (h > 10 * v ? v : 0));
                due("curve of v " + v + " at " + h + " down", x.curve(0, 1, 5, h, false), 10 + (h >= 5 * v ? v : 0));
            }
        }
    }

    // Promise 11
    private static void jumps() {
        HoneyWinds x = withStuffs();
        Due.law(x, 0, 1, "wind 10 h>0;wind 4 h=2;ease 3 h>50;wind 7 h=60");
        Due.law(x, 4, 3, "wind 10 h>0");
        Due.law(x, 0, 1, "wind 10 f>0;wind 9 f=5");
        Due.law(x, 0, 1, "wind 10 h>1");
        // TURNS: 10; 14 at 2; 10 from 3 on; 7 from 51 on; 14 at 60.
        int[][] due = {{1, 4, 2}, {3, 4, 2}, {4, 3, 2}, {5, 1, 60}, {7, 1, 60}, {8, 0, -5}, {99, 0, -5}};
        for (int[] d : due) {
            due("jumps by " + d[0] + ", how many", x.jumps(0, 0, 5, d[0], 0), d[1]);
            due("jumps by " + d[0] + ", the first", x.jumps(0, 0, 5, d[0], 1), d[2]);
        }
        due("EITHER jumps going up, by 3", x.jumps(1, 1, 5, 3, 0), 1);
        due("EITHER jumps at 31", x.jumps(1, 1, 5, 3, 1), 31);
        due("EITHER does not by 4", x.jumps(1, 1, 5, 4, 0), 0);
        due("no jumps of FLOW", x.jumps(2, 0, 5, 1, 0), 0);
        due("no jumps of FLOW: first", x.jumps(2, 0, 5, 1, 1), -5);
        due("a jump at 2 by 9", x.jumps(3, 0, 5, 9, 1), 2);
        due("jumps(4, ..)", x.jumps(4, 0, 5, 1, 0), -1);
        due("jumps(-1, ..)", x.jumps(-1, 0, 5, 1, 0), -1);
        due("jumps, stuff 3", x.jumps(0, 3, 5, 1, 0), -1);
        due("jumps, what 2", x.jumps(0, 0, 5, 1, 2), -1);
        due("jumps, what -1", x.jumps(0, 0, 5, 1, -1), -1);
        due("jumps, what 2, flow 0", x.jumps(0, 0, 0, 1, 2), -1);
        due("jumps, flow 0", x.jumps(0, 0, 0, 1, 0), -2);
        due("jumps, flow 21", x.jumps(0, 0, 21, 1, 0), -2);
        due("jumps, n 0", x.jumps(0, 0, 5, 0, 0), -2);
        due("jumps, n 100", x.jumps(0, 0, 5, 100, 0), -2);
        due("jumps, n -1", x.jumps(0, 0, 5, -1, 1), -2);
        due("jumps, n 99", x.jumps(0, 0, 20, 99, 1), -5);
    }

    // Promise 12
    private static void several() {
        HoneyWinds x = withStuffs();
        Due.law(x, 4, 3, "wind 10 h>0");
        Due.law(x, 2, 3, "wind 10 h>0;wind 5 h>20");
        due("several, how many: 15 to 30", x.several(0, 1, 5, 0), 16);
        due("several, the least", x.several(0, 1, 5, 1), 15);
        due("several, the greatest", x.several(0, 1, 5, 2), 30);
        due("several of HANGING, how many", x.several(1, 1, 5, 0), 0);
        due("several of HANGING, the least", x.several(1, 1, 5, 1), -5);
        due("several of HANGING, the greatest", x.several(1, 1, 5, 2), -5);
        due("several(2, ..)", x.several(2, 1, 5, 0), -1);
        due("several(-1, ..)", x.several(-1, 1, 5, 0), -1);
        due("several, stuff 3", x.several(0, 3, 5, 0), -1);
        due("several, stuff -1", x.several(0, -1, 5, 0), -1);
        due("several, what 3", x.several(0, 1, 5, 3), -1);
        due("several, what -1", x.several(0, 1, 5, -1), -1);
        due("several, what 3, flow 0", x.several(0, 1, 0, 3), -1);
        due("several, flow 0", x.several(0, 1, 0, 0), -2);
        due("several, flow 21", x.several(0, 1, 21, 1), -2);
    }

    private static void severalAtTheEnds() {
        HoneyWinds x = withStuffs();
        Due.law(x, 4, 9, "wind 10 h>0");
        due("v 9 is never HIGH going up: 45 to 60", x.several(0, 1, 20, 0), 16);
        due("v 9, the least", x.several(0, 1, 20, 1), 45);
        due("v 9, the greatest", x.several(0, 1, 20, 2), 60);
        Due.law(x, 4, 1, "wind 10 h>0");
        due("v 1, 5 to 10", x.several(1, 1, 1, 0), 6);
        due("v 1, the least", x.several(1, 1, 1, 1), 5);
        due("v 1, the greatest", x.several(1, 1, 1, 2), 10);
        x.stuff(2, 20);
        Due.law(x, 4, 6, "wind 99 h>9;wind 99 h>9;wind 99 h>9;wind 99 h>9;wind 99 h>9;wind 99 h>9;wind 99 h>9;"
                + "wind 99 h>9;wind 99 h>9;wind 99 h>35");
        due("where both are 999, both tell the same: 30 to 35", x.several(2, 3, 1, 0), 6);
        due("the least of these", x.several(2, 3, 1, 1), 30);
        due("the greatest of these", x.several(2, 3, 1, 2), 35);
    }
}
