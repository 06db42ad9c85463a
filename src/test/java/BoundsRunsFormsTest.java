/** Each sentence that names a boundary in part 2 of the document and in its promises 8 to 16, by a test of its own. */
public final class BoundsRunsFormsTest {
    // TURNS 10: FORM 0 at PACES 0 to 2, 1 at 3 to 5, 2 at 6 to 8, 3 at 9 to 11, 4 at 12 to 99.
    private static final String TEN = "wind 10 h>0";
    // FORM 0 at PACE 0 alone, 4 at PACE 99 alone, 1 at all others.
    private static final String ENDS = "wind 10 h>0;form 1 1;form 2 99;form 3 99;form 4 99";

    public static void main(String[] args) {
        ticksTwentyAtMost();
        tickEmpties();
        tickBad();
        eitherNotHighAhead();
        eitherBecomesHigh();
        eitherHighNoMore();
        eitherTellsAsItIsThen();
        skinnedButTheFirst();
        skinned99AtMost();
        skinnedTestsTheStuff();
        heapGrows();
        heapOfForm4();
        heapTopples();
        runTells();
        runWhat();
        curveUp();
        curveDown();
        curveCoolsNothing();
        curveFlowHeight();
        jumpsN();
        jumpsHeights();
        jumpsByNOrMore();
        jumpsFirst();
        jumpsRefused();
        severalLeastGreatest();
        severalNone();
        severalRefused();
        orderLeast();
        orderPaces();
        orderNone();
        orderRefused();
        rowEightAtMost();
        rowEmpties();
        rowForms();
        foundN();
        foundPaces();
        foundByNOrLess();
        foundLeastSum();
        foundFirstOfSeveral();
        foundNone();
        foundI();
        bearsN();
        bearsOffByN();
        bearsHeights();
        bearsGreatest();
        Due.end();
    }

    private static void due(String call, long got, long want) {
        Due.due(call, got, want);
    }

    private static HoneyWinds with(int stiff, int weight, int kind, int v, String law) {
        HoneyWinds x = new HoneyWinds();
        x.stuff(stiff, weight);
        Due.law(x, kind, v, law);
        return x;
    }

    private static HoneyWinds with(String law) {
        return with(5, 5, 0, 1, law);
    }

    /** EITHER whose TURNS are 10, and v more when HIGH. */
    private static HoneyWinds either(int v) {
        return with(20, 1, 4, v, TEN);
    }

    private static void ticks(HoneyWinds x, int... doings) {
        x.tick(-1);
        for (int d : doings) {
            x.tick(d);
        }
    }

    private static void heights(HoneyWinds x, int... heights) {
        x.tick(-1);
        for (int h : heights) {
            x.tick(10000 * h + 500);
        }
    }

    private static void row(HoneyWinds x, int... forms) {
        x.want(-1);
        for (int f : forms) {
            x.want(f);
        }
    }

    // ---- the run

    private static void ticksTwentyAtMost() {
        Due.sentence("A RUN: DOINGS told by hand, one each TICK (20 at most)");
        HoneyWinds x = with(TEN);
        for (int i = 1; i <= 20; i++) {
            due("run of TICK " + i + " ahead of it", x.run(0, 0, 199 + i), -1);
            due("TICK " + i, x.tick(100500 + i), i);
            due("count(3)", x.count(3), i);
        }
        for (int i = 0; i < 3; i++) {
            due("one TICK more", x.tick(100500), -4);
            due("count(3)", x.count(3), 20);
        }
        due("one TICK more, bad", x.tick(0), -2);
        due("all TURNS", x.run(0, 0, 1), 200);
        due("FORM of TICK 19", x.run(0, 0, 119), 4);
        due("TICK 20", x.run(0, 0, 120), -1);
    }

    private static void tickEmpties() {
        Due.sentence("how many (-1: it is empty then, 0)");
        HoneyWinds x = with(TEN);
        due("tick(-1) of none", x.tick(-1), 0);
        for (int i = 0; i < 20; i++) {
            x.tick(100500);
        }
        due("tick(-1) of 20", x.tick(-1), 0);
        due("count(3)", x.count(3), 0);
        due("TICK 0", x.run(0, 0, 100), -1);
        due("all TURNS", x.run(0, 0, 1), 0);
        due("a TICK", x.tick(100500), 1);
        due("all TURNS", x.run(0, 0, 1), 10);
    }

    private static void tickBad() {
        Due.sentence("tick: BAD");
        HoneyWinds x = with("wind 9 p=99");
        int[] bad = {-2, -10100, 0, 99, 9999, 10000, 10099, 12100, 610100, 602100, Integer.MIN_VALUE, Integer.MAX_VALUE};
        for (int b : bad) {
            due("tick(" + b + ")", x.tick(b), -2);
            due("count(3)", x.count(3), 0);
        }
        due("tick(10100)", x.tick(10100), 1);
        due("tick(602099)", x.tick(602099), 2);
        due("TURNS of PACE 99", x.run(0, 0, 201), 9);
    }

    private static void eitherNotHighAhead() {
        Due.sentence("Ahead of it EITHER is not HIGH");
        for (int v = 1; v <= 6; v++) {
            HoneyWinds x = either(v);
            heights(x, 10 * v);
            due("v " + v + ", first TICK at " + 10 * v, x.run(0, 0, 200), 10);
            heights(x, 5 * v);
            due("v " + v + ", first TICK at " + 5 * v, x.run(0, 0, 200), 10);
        }
    }

    private static void eitherBecomesHigh() {
        Due.sentence("it becomes HIGH in a TICK in which HEIGHT is above 10 times v");
        for (int v = 1; v <= 6; v++) {
            HoneyWinds x = either(v);
            for (int h = 10 * v - 1; h <= Math.min(60, 10 * v + 1); h++) {
                heights(x, 1, h);
                due("v " + v + ", second TICK at " + h, x.run(0, 0, 201), h > 10 * v ? 10 + v : 10);
            }
        }
        HoneyWinds y = either(6);
        heights(y, 60, 60);
        due("v 6, at 60", y.run(0, 0, 201), 10);
    }

    private static void eitherHighNoMore() {
        Due.sentence("and is so no more from one on in which HEIGHT is below 5 times v");
        for (int v = 1; v <= 5; v++) {
            HoneyWinds x = either(v);
            heights(x, 10 * v + 1, 10 * v, 5 * v + 1, 5 * v, 5 * v - 1, 5 * v, 10 * v, 10 * v + 1, 5 * v);
            int[] due = {v, v, v, v, 0, 0, 0, v, v};
            for (int t = 0; t < due.length; t++) {
                due("v " + v + ", TICK " + t, x.run(0, 0, 200 + t), 10 + due[t]);
            }
        }
    }

    private static void eitherTellsAsItIsThen() {
        Due.sentence("(TURNS are told by how it is then)");
        HoneyWinds x = either(2);
        heights(x, 21, 9);
        due("HIGH in its first TICK", x.run(0, 0, 200), 12);
        due("not HIGH in the TICK below", x.run(0, 0, 201), 10);
        HoneyWinds y = with(20, 1, 4, 2, TEN + ";form 4 11");
        ticks(y, 200512, 210512, 200513, 90512);
        due("FORM, not HIGH", y.run(0, 0, 100), 4);
        due("FORM, HIGH: 120 by 12", y.run(0, 0, 101), 3);
        due("FORM, HIGH: 130 by 12", y.run(0, 0, 102), 3);
        due("FORM, HIGH no more", y.run(0, 0, 103), 4);
    }

    private static void skinnedButTheFirst() {
        Due.sentence("STIFF, by which WEIGHT times v is divided for SKINNED, is more by cool in each TICK but the first");
        for (int cool : new int[] {0, 1, 2, 5}) {
            HoneyWinds x = with(1, 20, 5, 9, TEN + ";cool " + cool);
            HoneyWinds y = with(1, 20, 2, 9, TEN + ";cool " + cool);
            for (int t = 0; t < 20; t++) {
                x.tick(100500);
                y.tick(100500);
            }
            for (int t = 0; t < 20; t++) {
                due("cool " + cool + ", SKINNED in TICK " + t, x.run(0, 0, 200 + t), 10 + 180 / (1 + cool * t));
                due("cool " + cool + ", HANGING in TICK " + t, y.run(0, 0, 200 + t), 190);
            }
        }
    }

    private static void skinned99AtMost() {
        Due.sentence("(99 at most)");
        // 99 = 11 times 9: over 98 and 99 it is 1; over 100 it would be 0.
        int[][] due = {{20, 78, 1}, {20, 79, 1}, {20, 80, 1}, {20, 99, 1}, {1, 98, 1}, {1, 99, 1}};
        for (int[] d : due) {
            HoneyWinds x = with(d[0], 11, 5, 9, TEN + ";cool " + d[1]);
            heights(x, 10, 10, 10);
            due("STIFF " + d[0] + " and " + d[1], x.run(0, 0, 201), 10 + d[2]);
            due("STIFF " + d[0] + " and twice " + d[1], x.run(0, 0, 202), 10 + d[2]);
        }
        // 98 = 14 times 7: over 98 it is 1, over 99 it is 0.
        HoneyWinds y = with(20, 14, 5, 7, TEN + ";cool 78");
        heights(y, 10, 10, 10);
        due("98 over 98", y.run(0, 0, 201), 11);
        due("98 over 99", y.run(0, 0, 202), 10);
        HoneyWinds z = with(20, 14, 5, 7, TEN + ";cool 79");
        heights(z, 10, 10);
        due("98 over 20 and 79", z.run(0, 0, 201), 10);
    }

    private static void skinnedTestsTheStuff() {
        Due.sentence("s STIFF (as the STUFF is)");
        HoneyWinds x = with(4, 1, 5, 1, "wind 10 s=4;wind 20 s>4;cool 9");
        heights(x, 10, 10, 10);
        for (int t = 0; t < 3; t++) {
            due("TICK " + t, x.run(0, 0, 200 + t), 10);
        }
    }

    private static void heapGrows() {
        Due.sentence("THE HEAP (0 at first) grows in a TICK of FORM 0 by FLOW");
        HoneyWinds x = with(TEN + ";heap 99");
        ticks(x, 100100, 102002, 100503, 100611, 100702, 100905);
        int[] due = {1, 21, 21, 21, 28, 28};
        for (int t = 0; t < due.length; t++) {
            due("THE HEAP behind TICK " + t, x.run(0, 0, 300 + t), due[t]);
        }
        ticks(x, 100503);
        due("THE HEAP of FORM 1 at first", x.run(0, 0, 300), 0);
    }

    private static void heapOfForm4() {
        Due.sentence("in one of FORM 4 it is 0 then");
        HoneyWinds x = with(TEN);
        ticks(x, 100900, 100911, 100912, 100300, 100999);
        int[] due = {9, 9, 0, 3, 0};
        for (int t = 0; t < due.length; t++) {
            due("THE HEAP behind TICK " + t, x.run(0, 0, 300 + t), due[t]);
        }
        due("it did not TOPPLE", x.run(0, 0, 0), 0);
    }

    private static void heapTopples() {
        Due.sentence("if it is above heap, it TOPPLES, and is 0");
        for (int heap : new int[] {0, 1, 9, 19, 20, 39, 40, 98, 99}) {
            HoneyWinds x = with(TEN + ";heap " + heap);
            x.tick(-1);
            int h = 0;
            int topples = 0;
            for (int t = 0; t < 20; t++) {
                int flow = t < 8 ? 20 : t;
                x.tick(100000 + 100 * flow);
                h += flow;
                topples += h > heap ? 1 : 0;
                h = h > heap ? 0 : h;
                due("heap " + heap + " behind TICK " + t, x.run(0, 0, 300 + t), h);
                due("heap " + heap + " TOPPLES till TICK " + t, x.run(0, 0, 0), topples);
            }
        }
        HoneyWinds y = with(TEN);
        ticks(y, 102000);
        due("20 is not above 20", y.run(0, 0, 300), 20);
        ticks(y, 102000, 100100);
        due("21 is above 20", y.run(0, 0, 301), 0);
        due("how often", y.run(0, 0, 0), 1);
        ticks(y, 102000, 100103, 100100);
        due("in a TICK of FORM 1 it does not grow", y.run(0, 0, 301), 20);
        due("how often", y.run(0, 0, 0), 1);
    }

    private static void runTells() {
        Due.sentence("how often it TOPPLES; all TURNS, together; how often FORM changes");
        HoneyWinds x = with("wind 10 h>0;wind 5 p>50;heap 4");
        for (int what = 0; what <= 2; what++) {
            due("no TICKS, what " + what, x.run(0, 0, what), 0);
        }
        ticks(x, 100500);
        due("one TICK TOPPLES", x.run(0, 0, 0), 1);
        due("one TICK, all TURNS", x.run(0, 0, 1), 10);
        due("one TICK, how often FORM changes", x.run(0, 0, 2), 0);
        ticks(x, 100500, 100500, 100503, 100551, 100503, 100500);
        due("six TICKS TOPPLE", x.run(0, 0, 0), 3);
        due("six TICKS, all TURNS", x.run(0, 0, 1), 65);
        due("six TICKS, how often FORM changes", x.run(0, 0, 2), 4);
        HoneyWinds most = with(1, 20, 2, 9, "wind 99 h>0;wind 99 h>0;wind 99 h>0;wind 99 h>0;wind 99 h>0;"
                + "wind 99 h>0;wind 99 h>0;wind 99 h>0;wind 99 h>0;heap 0");
        for (int t = 0; t < 20; t++) {
            most.tick(100100);
        }
        due("20 TICKS TOPPLE", most.run(0, 0, 0), 20);
        due("20 times 999", most.run(0, 0, 1), 19980);
        ticks(x, 100500, 100503, 100500, 100503, 100500, 100503, 100500, 100503, 100500, 100503, 100500, 100503, 100500,
                100503, 100500, 100503, 100500, 100503, 100500, 100503);
        due("20 TICKS, how often FORM changes", x.run(0, 0, 2), 19);
    }

    private static void runWhat() {
        Due.sentence("100 and t FORM, 200 and t TURNS, 300 and t THE HEAP behind TICK t. NONE.");
        HoneyWinds x = with(TEN);
        for (int ticks = 0; ticks <= 20; ticks++) {
            int[] none = {-1, 3, 99, 100 + ticks, 199, 200 + ticks, 299, 300 + ticks, 399, 400, 500};
            for (int what : none) {
                due(ticks + " TICKS, what " + what, x.run(0, 0, what), -1);
            }
            x.tick(100503);
            int t = Math.min(ticks, 19);
            due("FORM of TICK " + t, x.run(0, 0, 100 + t), 1);
            due("TURNS of TICK " + t, x.run(0, 0, 200 + t), 10);
            due("THE HEAP behind TICK " + t, x.run(0, 0, 300 + t), 0);
        }
        int[] none = {-100, -200, Integer.MIN_VALUE, Integer.MAX_VALUE};
        for (int what : none) {
            due("20 TICKS, what " + what, x.run(0, 0, what), -1);
        }
        Due.within("run(n, 0, 0)", 0, 0, -1, n -> x.run(n, 0, 0));
        Due.within("run(0, n, 0)", 0, 0, -1, n -> x.run(0, n, 0));
    }

    // ---- curves

    private static void curveUp() {
        Due.sentence("TURNS at HEIGHTS 1 .. 60, going up from 1 (EITHER as in a RUN)");
        for (int v = 1; v <= 9; v++) {
            HoneyWinds x = either(v);
            for (int h = 1; h <= 60; h++) {
                due("v " + v + " at " + h, x.curve(0, 0, 5, h, true), h > 10 * v ? 10 + v : 10);
            }
        }
    }

    private static void curveDown() {
        Due.sentence("or down from 60 (likewise, but ahead of it EITHER is HIGH)");
        for (int v = 1; v <= 9; v++) {
            HoneyWinds x = either(v);
            for (int h = 1; h <= 60; h++) {
                due("v " + v + " at " + h, x.curve(0, 0, 5, h, false), h >= 5 * v ? 10 + v : 10);
            }
        }
    }

    private static void curveCoolsNothing() {
        Due.sentence("nothing cools");
        HoneyWinds x = with(1, 20, 5, 9, TEN + ";cool 99");
        for (int h : new int[] {1, 2, 30, 59, 60}) {
            due("up at " + h, x.curve(0, 0, 5, h, true), 190);
            due("down at " + h, x.curve(0, 0, 5, h, false), 190);
        }
    }

    private static void curveFlowHeight() {
        Due.sentence("CURVE: TURNS at a HEIGHT, going up, or not. NONE; BAD: flow, height. (PACE 0)");
        HoneyWinds x = with("wind 10 f=1;wind 20 f=20;wind 30 h=1;wind 50 h=60;wind 99 p>0");
        for (boolean up : new boolean[] {true, false}) {
            Due.within("curve by FLOW", 1, 20, -2, n -> x.curve(0, 0, n, 30, up));
            Due.within("curve at HEIGHT", 1, 60, -2, n -> x.curve(0, 0, 5, n, up));
            Due.within("curve of LAW", 0, 0, -1, n -> x.curve(n, 0, 5, 30, up));
            Due.within("curve of STUFF", 0, 0, -1, n -> x.curve(0, n, 5, 30, up));
            due("FLOW 1, HEIGHT 1", x.curve(0, 0, 1, 1, up), 40);
            due("FLOW 20, HEIGHT 60", x.curve(0, 0, 20, 60, up), 70);
            due("FLOW 1, HEIGHT 2", x.curve(0, 0, 1, 2, up), 10);
            due("FLOW 20, HEIGHT 59", x.curve(0, 0, 20, 59, up), 20);
            due("no LAW and bad", x.curve(1, 0, 0, 0, up), -1);
            due("no STUFF and bad", x.curve(0, 1, 21, 61, up), -1);
        }
    }

    private static void jumpsN() {
        Due.sentence("JUMPS by n (1 .. 99)");
        HoneyWinds x = with("wind 1 h>0;wind 99 h>20;ease 1 h>40");
        Due.within("jumps by n, how many", 1, 99, -2, n -> x.jumps(0, 0, 5, n, 0));
        Due.within("jumps by n, the first", 1, 99, -2, n -> x.jumps(0, 0, 5, n, 1));
        due("by 1", x.jumps(0, 0, 5, 1, 0), 2);
        due("by 2", x.jumps(0, 0, 5, 2, 0), 1);
        due("by 99", x.jumps(0, 0, 5, 99, 1), 21);
        HoneyWinds y = with("wind 2 h>0;wind 98 h>20");
        due("98 by 99", y.jumps(0, 0, 5, 99, 1), -5);
        due("98 by 98", y.jumps(0, 0, 5, 98, 1), 21);
    }

    private static void jumpsHeights() {
        Due.sentence("HEIGHTS (2 .. 60) at which TURNS differ .. from those at the HEIGHT ahead");
        for (int h = 1; h <= 60; h++) {
            HoneyWinds x = with("wind 10 h>0;wind 5 h=" + h);
            due("another TURNS at " + h + ", how many", x.jumps(0, 0, 5, 5, 0), h == 1 || h == 60 ? 1 : 2);
            due("another TURNS at " + h + ", the first", x.jumps(0, 0, 5, 5, 1), h == 1 ? 2 : h);
        }
        HoneyWinds y = with(1, 1, 3, 1, TEN);
        due("all HEIGHTS", y.jumps(0, 0, 20, 2, 0), 59);
        due("the first of all", y.jumps(0, 0, 20, 2, 1), 2);
    }

    private static void jumpsByNOrMore() {
        Due.sentence("TURNS differ by n or more");
        HoneyWinds up = with("wind 10 h>0;wind 7 h>30");
        HoneyWinds down = with("wind 17 h>0;ease 7 h>30");
        for (int n = 1; n <= 9; n++) {
            due("7 more, by " + n, up.jumps(0, 0, 5, n, 0), n <= 7 ? 1 : 0);
            due("7 less, by " + n, down.jumps(0, 0, 5, n, 0), n <= 7 ? 1 : 0);
        }
        HoneyWinds x = either(3);
        due("EITHER, going up, at 31", x.jumps(0, 0, 5, 3, 1), 31);
        due("EITHER, how many", x.jumps(0, 0, 5, 1, 0), 1);
        due("EITHER, by 4", x.jumps(0, 0, 5, 4, 0), 0);
        due("v 6: never HIGH", either(6).jumps(0, 0, 5, 1, 0), 0);
    }

    private static void jumpsFirst() {
        Due.sentence("how many, the first (-5)");
        HoneyWinds x = with("wind 10 h>0;wind 5 h>20;wind 9 h>40");
        due("by 5, how many", x.jumps(0, 0, 5, 5, 0), 2);
        due("by 5, the first", x.jumps(0, 0, 5, 5, 1), 21);
        due("by 9, the first", x.jumps(0, 0, 5, 9, 1), 41);
        due("by 10, how many", x.jumps(0, 0, 5, 10, 0), 0);
        due("by 10, the first", x.jumps(0, 0, 5, 10, 1), -5);
    }

    private static void jumpsRefused() {
        Due.sentence("JUMPS by n: what 0 how many, 1 the first (-5). NONE; BAD: flow, n.");
        HoneyWinds x = with("wind 10 h>0;wind 5 f=20&h>7;wind 5 f=1&h>8");
        Due.within("jumps, what", 0, 1, -1, n -> x.jumps(0, 0, 5, 1, n));
        Due.within("jumps by FLOW", 1, 20, -2, n -> x.jumps(0, 0, n, 1, 0));
        Due.within("jumps of LAW", 0, 0, -1, n -> x.jumps(n, 0, 5, 1, 0));
        Due.within("jumps of STUFF", 0, 0, -1, n -> x.jumps(0, n, 5, 1, 0));
        due("FLOW 20", x.jumps(0, 0, 20, 1, 1), 8);
        due("FLOW 1", x.jumps(0, 0, 1, 1, 1), 9);
        due("what 2 and bad", x.jumps(0, 0, 0, 0, 2), -1);
    }

    private static void severalLeastGreatest() {
        Due.sentence("SEVERAL: HEIGHTS at which going up and down tell otherwise: how many, the least (-5), the greatest");
        for (int v = 1; v <= 9; v++) {
            HoneyWinds x = either(v);
            int greatest = Math.min(60, 10 * v);
            due("v " + v + ", how many", x.several(0, 0, 5, 0), greatest - 5 * v + 1);
            due("v " + v + ", the least", x.several(0, 0, 5, 1), 5 * v);
            due("v " + v + ", the greatest", x.several(0, 0, 5, 2), greatest);
        }
    }

    private static void severalNone() {
        Due.sentence("what 0 how many, 1 the least (-5), 2 the greatest (-5)");
        for (int kind = 0; kind <= 6; kind++) {
            HoneyWinds x = with(1, 9, kind, 9, "wind 10 h>0;wind 5 h>20;ease 3 h>50;cool 9");
            boolean either = kind == 4;
            due("KIND " + kind + ", how many", x.several(0, 0, 5, 0), either ? 16 : 0);
            due("KIND " + kind + ", the least", x.several(0, 0, 5, 1), either ? 45 : -5);
            due("KIND " + kind + ", the greatest", x.several(0, 0, 5, 2), either ? 60 : -5);
        }
    }

    private static void severalRefused() {
        Due.sentence("several: NONE; BAD.");
        HoneyWinds x = either(4);
        Due.within("several, what", 0, 2, -1, n -> x.several(0, 0, 5, n));
        Due.within("several by FLOW", 1, 20, -2, n -> x.several(0, 0, n, 0));
        Due.within("several of LAW", 0, 0, -1, n -> x.several(n, 0, 5, 0));
        Due.within("several of STUFF", 0, 0, -1, n -> x.several(0, n, 5, 0));
        due("what 3 and bad", x.several(0, 0, 21, 3), -1);
    }

    // ---- forms

    private static void orderLeast() {
        Due.sentence("ORDER ..: the least PACE (0 .. 99) at which the FORM is k");
        int[] due = {0, 3, 6, 9, 12};
        HoneyWinds x = with(TEN);
        for (int k = 0; k <= 4; k++) {
            due("FORM " + k, x.order(0, 0, 100500, k), due[k]);
            due("FORM " + k + ", its PACE does not matter", x.order(0, 0, 100599, k), due[k]);
        }
        HoneyWinds y = with("wind 10 h>0;wind 10 p>9");
        due("FORM 3 at 9, and from 18 on", y.order(0, 0, 100500, 3), 9);
        due("FORM 2 at 6, and from 12 on", y.order(0, 0, 100500, 2), 6);
        due("FORM 4 from 24 on", y.order(0, 0, 100500, 4), 24);
    }

    private static void orderPaces() {
        Due.sentence("PACE (0 .. 99)");
        HoneyWinds x = with(ENDS);
        due("at PACE 0 alone", x.order(0, 0, 100550, 0), 0);
        due("from PACE 1 on", x.order(0, 0, 100550, 1), 1);
        due("at PACE 99 alone", x.order(0, 0, 100550, 4), 99);
        HoneyWinds y = with("wind 99 h>0;form 1 0;form 2 9;form 3 9;form 4 10");
        due("10 by TURNS 99 at PACE 98, 99", y.order(0, 0, 100500, 4), 99);
        due("9 by TURNS 99", y.order(0, 0, 100500, 3), 90);
    }

    private static void orderNone() {
        Due.sentence("(-5: at none)");
        HoneyWinds x = with(ENDS);
        due("FORM 2", x.order(0, 0, 100500, 2), -5);
        due("FORM 3", x.order(0, 0, 100500, 3), -5);
        HoneyWinds y = with("wind 99 h>0;wind 1 h>0;form 4 10");
        due("10 by TURNS 100", y.order(0, 0, 100500, 4), -5);
        HoneyWinds z = with("form 1 0");
        due("FORM 0", z.order(0, 0, 100500, 0), -5);
    }

    private static void orderRefused() {
        Due.sentence("ORDER (k 0 .. 4); -5. NONE: law, stuff; BAD: doing, k.");
        HoneyWinds x = with("wind 10 h>0;wind 10 h=60;wind 20 h=1;wind 30 f=1;wind 50 f=20");
        Due.within("order of k", 0, 4, -2, n -> x.order(0, 0, 100500, n));
        Due.within("order at HEIGHT", 1, 60, -2, n -> x.order(0, 0, 10000 * n + 500, 1));
        Due.within("order by FLOW", 1, 20, -2, n -> x.order(0, 0, 100000 + 100 * n, 1));
        Due.within("order of LAW", 0, 0, -1, n -> x.order(n, 0, 100500, 1));
        Due.within("order of STUFF", 0, 0, -1, n -> x.order(0, n, 100500, 1));
        due("60 and 1: TURNS 50", x.order(0, 0, 600100, 1), 15);
        due("1 and 20: TURNS 80", x.order(0, 0, 12000, 1), 24);
        due("doing -1", x.order(0, 0, -1, 1), -2);
        due("no LAW and bad", x.order(1, 0, 0, 5), -1);
        due("no STUFF and bad", x.order(0, 1, 0, 5), -1);
    }

    private static void rowEightAtMost() {
        Due.sentence("WANT: a ROW of FORMS told by hand (8 at most)");
        HoneyWinds x = with(TEN);
        for (int i = 1; i <= 8; i++) {
            due("found, FORM " + (i - 1) + " ahead of it", x.found(0, 0, 100500, 99, i - 1), -1);
            due("FORM " + (i - 1), x.want(i == 8 ? 4 : 0), i);
            due("count(4)", x.count(4), i);
        }
        for (int i = 0; i < 3; i++) {
            due("one FORM more", x.want(0), -4);
            due("count(4)", x.count(4), 8);
        }
        due("one FORM more, bad", x.want(5), -2);
        due("the sum", x.found(0, 0, 100500, 99, -1), 10);
        due("the eighth PACE", x.found(0, 0, 100500, 99, 7), 12);
        due("a ninth PACE", x.found(0, 0, 100500, 99, 8), -1);
    }

    private static void rowEmpties() {
        Due.sentence("A FORM comes to the ROW: how many (-1: it is empty then, 0)");
        HoneyWinds x = with(TEN);
        due("want(-1) of none", x.want(-1), 0);
        for (int i = 0; i < 8; i++) {
            x.want(2);
        }
        due("want(-1) of 8", x.want(-1), 0);
        due("count(4)", x.count(4), 0);
        due("no PACE", x.found(0, 0, 100500, 99, 0), -1);
        due("a FORM", x.want(3), 1);
        due("its PACE", x.found(0, 0, 100500, 99, 0), 9);
    }

    private static void rowForms() {
        Due.sentence("A FORM (0 .. 4) comes to the ROW");
        int[] bad = {-2, 5, Integer.MIN_VALUE, Integer.MAX_VALUE};
        HoneyWinds x = with(TEN);
        for (int b : bad) {
            due("want(" + b + ")", x.want(b), -2);
            due("count(4)", x.count(4), 0);
        }
        int[] paces = {0, 3, 6, 9, 12};
        for (int f = 0; f <= 4; f++) {
            row(x, f);
            due("PACE of FORM " + f, x.found(0, 0, 100500, 0, 0), paces[f]);
        }
    }

    private static void found(HoneyWinds x, int n, int sum, int... paces) {
        due("found by " + n + ": the sum", x.found(0, 0, 100577, n, -1), sum);
        for (int i = 0; i < paces.length; i++) {
            due("found by " + n + ": PACE " + i, x.found(0, 0, 100500, n, i), paces[i]);
        }
    }

    private static void foundN() {
        Due.sentence("FOUND by a LAW, a STUFF, a HEIGHT, a FLOW and n (0 .. 99)");
        HoneyWinds x = with(ENDS);
        row(x, 0, 4);
        Due.within("found by n", 0, 99, -2, n -> x.found(0, 0, 100500, n, -1));
        found(x, 98, -5, -5, -5);
        found(x, 99, 99, 0, 99);
        HoneyWinds y = with(TEN);
        row(y, 2, 2);
        found(y, 0, 0, 6, 6);
        due("no LAW", y.found(1, 0, 100500, 9, 0), -1);
        due("no STUFF", y.found(0, 1, 100500, 9, 0), -1);
        Due.within("found at HEIGHT", 1, 60, -2, n -> y.found(0, 0, 10000 * n + 500, 9, 0));
        Due.within("found by FLOW", 1, 20, -2, n -> y.found(0, 0, 100000 + 100 * n, 9, 0));
        due("doing -1", y.found(0, 0, -1, 9, 0), -2);
    }

    private static void foundPaces() {
        Due.sentence("a row of PACES (0 .. 99), one for each, by which FORMS are as told");
        HoneyWinds x = with(ENDS);
        row(x, 0, 4, 0, 4, 0, 4, 0, 4);
        found(x, 99, 7 * 99, 0, 99, 0, 99, 0, 99, 0, 99);
        row(x, 4, 0, 4, 0);
        found(x, 99, 3 * 99, 99, 0, 99, 0);
        row(x, 4, 1, 0);
        found(x, 99, 99, 99, 1, 0);
        row(x, 0, 1, 4);
        found(x, 99, 99, 0, 1, 99);
        row(x, 1);
        found(x, 0, 0, 1);
        HoneyWinds y = with("form 1 0;form 2 10");
        row(y, 1);
        found(y, 0, 0, 0);
        row(y, 0);
        found(y, 99, -5, -5);
        row(y, 1, 3, 1);
        found(y, 99, 2, 0, 1, 0);
    }

    private static void foundByNOrLess() {
        Due.sentence("each differing by n or less from the one ahead");
        HoneyWinds x = with(TEN);
        int[][] rows = {{0, 2}, {2, 0}, {0, 3}, {3, 0}, {1, 4}, {4, 1}, {0, 4}, {4, 0}};
        int[] differ = {4, 4, 7, 7, 7, 7, 10, 10};
        for (int i = 0; i < rows.length; i++) {
            row(x, rows[i]);
            for (int n = differ[i] - 1; n <= differ[i] + 1; n++) {
                due(rows[i][0] + " to " + rows[i][1] + " by " + n, x.found(0, 0, 100500, n, -1), n < differ[i] ? -5 : differ[i]);
            }
        }
        row(x, 0, 1, 2, 3, 4);
        found(x, 2, -5, -5, -5, -5, -5, -5);
        found(x, 3, 10, 2, 3, 6, 9, 12);
        row(x, 0, 1, 1, 2, 2, 3, 3, 4);
        found(x, 1, -5);
        found(x, 2, 10, 2, 3, 4, 6, 7, 9, 10, 12);
    }

    private static void foundLeastSum() {
        Due.sentence("with the least sum of how far they differ");
        HoneyWinds x = with("wind 10 h>0;wind 90 p>50");
        row(x, 4, 1);
        found(x, 99, 1, 50, 51);
        row(x, 2, 1, 4);
        found(x, 99, 8, 6, 5, 12);
        found(x, 7, 8, 6, 5, 12);
        found(x, 6, 10, 60, 54, 50);
        row(x, 3, 4, 1);
        found(x, 99, 8, 11, 12, 5);
    }

    private static void foundFirstOfSeveral() {
        Due.sentence("of several the first as a row");
        HoneyWinds x = with(TEN);
        row(x, 4, 4, 4);
        found(x, 99, 0, 12, 12, 12);
        row(x, 0, 2);
        found(x, 99, 4, 2, 6);
        row(x, 0, 1, 2);
        found(x, 99, 4, 2, 3, 6);
        found(x, 2, 4, 2, 4, 6);
        row(x, 2, 1, 0);
        found(x, 99, 4, 6, 3, 2);
        found(x, 2, 4, 6, 4, 2);
        row(x, 0, 1, 1, 2);
        found(x, 99, 4, 2, 3, 3, 6);
        found(x, 2, 4, 2, 3, 4, 6);
        found(x, 1, -5);
    }

    private static void foundNone() {
        Due.sentence("-5: none");
        HoneyWinds x = with(ENDS);
        row(x, 2);
        found(x, 99, -5, -5);
        row(x, 1, 2);
        found(x, 99, -5, -5, -5);
        row(x, 2, 1);
        found(x, 99, -5, -5, -5);
        due("found, i 2", x.found(0, 0, 100500, 99, 2), -1);
        row(x);
        due("the sum of an empty ROW", x.found(0, 0, 100500, 0, -1), 0);
        due("the first of an empty ROW", x.found(0, 0, 100500, 0, 0), -1);
    }

    private static void foundI() {
        Due.sentence("FOUND by n: i -1 the sum, else the i-th PACE; -5. NONE: law, stuff, i; BAD.");
        HoneyWinds x = with(TEN);
        for (int many = 1; many <= 8; many++) {
            x.want(1);
            int greatest = many - 1;
            due("i -1 of " + many, x.found(0, 0, 100500, 9, -1), 0);
            due("i 0 of " + many, x.found(0, 0, 100500, 9, 0), 3);
            due("i " + greatest + " of " + many, x.found(0, 0, 100500, 9, greatest), 3);
            due("i " + many + " of " + many, x.found(0, 0, 100500, 9, many), -1);
            due("i -2 of " + many, x.found(0, 0, 100500, 9, -2), -1);
            due("i " + many + " and bad", x.found(0, 0, 0, 100, many), -1);
        }
        due("i MIN", x.found(0, 0, 100500, 9, Integer.MIN_VALUE), -1);
        due("i MAX", x.found(0, 0, 100500, 9, Integer.MAX_VALUE), -1);
    }

    // ---- bearing

    private static void bearsN() {
        Due.sentence("BEARS by n (0 .. 20; 1, 0); n -1: the greatest. NONE; BAD.");
        HoneyWinds x = with(TEN);
        Due.within("bears by n", -1, 20, -2, n -> x.bears(0, 0, 300500, n));
        Due.within("bears at HEIGHT", 1, 60, -2, n -> x.bears(0, 0, 10000 * n + 500, 0));
        Due.within("bears by FLOW", 1, 20, -2, n -> x.bears(0, 0, 300000 + 100 * n, 0));
        Due.within("bears of LAW", 0, 0, -1, n -> x.bears(n, 0, 300500, 0));
        Due.within("bears of STUFF", 0, 0, -1, n -> x.bears(0, n, 300500, 0));
        due("by 20", x.bears(0, 0, 300500, 20), 1);
        due("by 0", x.bears(0, 0, 300500, 0), 1);
        due("the greatest", x.bears(0, 0, 300500, -1), 20);
        due("doing -1", x.bears(0, 0, -1, 0), -2);
        due("no LAW and bad", x.bears(1, 0, 0, 21), -1);
    }

    // FORM 1 at PACE 5, but for one HEIGHT, where it is 0.
    private static void bearsOffByN() {
        Due.sentence("whether FORM is as it is at all HEIGHTS that are n or less off");
        for (int off = 1; off <= 21; off++) {
            for (int sign = -1; sign <= 1; sign += 2) {
                HoneyWinds x = with("wind 10 h>0;wind 10 h=" + (30 + sign * off));
                for (int n = 0; n <= 20; n++) {
                    due("off by " + sign * off + ", by " + n, x.bears(0, 0, 300505, n), n < off ? 1 : 0);
                }
                due("off by " + sign * off + ", the greatest", x.bears(0, 0, 300505, -1), off - 1);
            }
        }
    }

    private static void bearsHeights() {
        Due.sentence("at all HEIGHTS that are n or less off (1 .. 60)");
        HoneyWinds least = with("wind 10 h>0;wind 10 h=1;wind 10 h<1");
        HoneyWinds most = with("wind 10 h>0;wind 10 h=60;wind 10 h>60");
        for (int h = 2; h <= 20; h++) {
            due("the greatest at " + h, least.bears(0, 0, 10000 * h + 505, -1), h - 2);
            due("the greatest at " + (61 - h), most.bears(0, 0, 10000 * (61 - h) + 505, -1), h - 2);
        }
        HoneyWinds x = with("wind 10 h>0;wind 10 h<1;wind 10 h>60");
        int[] all = {1, 2, 20, 21, 40, 41, 59, 60};
        for (int h : all) {
            due("by 20 at " + h, x.bears(0, 0, 10000 * h + 505, 20), 1);
            due("the greatest at " + h, x.bears(0, 0, 10000 * h + 505, -1), 20);
        }
    }

    private static void bearsGreatest() {
        Due.sentence("The greatest n (0 .. 20) that it BEARS.");
        HoneyWinds x = with("wind 10 h>0;wind 10 h>30");
        int[][] due = {{1, 20}, {10, 20}, {11, 19}, {29, 1}, {30, 0}, {31, 0}, {32, 1}, {50, 19}, {51, 20}, {60, 20}};
        for (int[] d : due) {
            due("at HEIGHT " + d[0], x.bears(0, 0, 10000 * d[0] + 505, -1), d[1]);
        }
        HoneyWinds y = with(20, 1, 4, 3, TEN);
        due("EITHER, HIGH at 31", y.bears(0, 0, 300503, -1), 0);
        due("EITHER, HIGH at 31, from 33", y.bears(0, 0, 330503, -1), 2);
    }
}
