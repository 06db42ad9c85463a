/** Promises 13 to 16: order, want, found, bears. */
public final class FormsTest {
    // TURNS 10: FORM 0 at PACES 0 to 2, 1 at 3 to 5, 2 at 6 to 8, 3 at 9 to 11, 4 at 12 to 99.
    private static final String TEN = "wind 10 h>0";
    // Likewise to 50; above it TURNS 100: FORM 1 at 51 to 59, 2 at 60 to 89, 3 at 90 to 99.
    private static final String TWICE = "wind 10 h>0;wind 90 p>50";

    public static void main(String[] args) {
        order();
        orderRefusals();
        want();
        found();
        foundByN();
        foundSeveral();
        foundAtTheEnds();
        foundLong();
        foundRefusals();
        bears();
        bearsRefusals();
        Due.end();
    }

    private static void due(String call, long got, long want) {
        Due.due(call, got, want);
    }

    private static HoneyWinds with(String... laws) {
        HoneyWinds x = new HoneyWinds();
        x.stuff(4, 9);
        x.stuff(20, 1);
        for (String law : laws) {
            Due.law(x, 0, 1, law);
        }
        return x;
    }

    // Promise 13
    private static void order() {
        HoneyWinds x = with(TEN, "wind 10 h>0;ease 9 p=1", "form 1 0;form 2 0;form 3 0;form 4 0",
                "wind 99 h>0;form 4 10", "wind 10 f<6;wind 20 f>5;ease 5 p=99");
        int[] least = {0, 3, 6, 9, 12};
        for (int k = 0; k <= 4; k++) {
            due("order of " + k, x.order(0, 0, 100500, k), least[k]);
            due("order of " + k + ", from any PACE", x.order(0, 0, 100599, k), least[k]);
        }
        due("order of FORM 3: 10 by 1 at PACE 1", x.order(1, 0, 100500, 3), 1);
        due("order of FORM 1 there", x.order(1, 0, 100500, 1), 3);
        due("order of 3, where 4 comes first", x.order(2, 0, 100500, 3), -5);
        due("order of 0 there", x.order(2, 0, 100500, 0), -5);
        due("order of 4 there", x.order(2, 0, 100500, 4), 0);
        due("order at the last PACE", x.order(3, 0, 100500, 4), 99);
        due("order of 3 at 900 by 99", x.order(3, 0, 100500, 3), 90);
        Due.law(x, 0, 1, "wind 99 h>0;ease 98 p>98;form 4 20");
        due("order at the last PACE, where an ease holds", x.order(5, 0, 100500, 4), 99);
        due("order by FLOW 5", x.order(4, 0, 100500, 1), 3);
        due("order by FLOW 6", x.order(4, 0, 100600, 1), 6);
        Due.law(x, 4, 2, "wind 10 h>0;wind 8 p<1");
        due("order of EITHER that is not HIGH", x.order(6, 1, 200500, 1), 3);
        due("order of EITHER that is HIGH, 12 TURNS", x.order(6, 1, 210500, 1), 4);
    }

    private static void orderRefusals() {
        HoneyWinds x = with(TEN);
        due("order(1, ..)", x.order(1, 0, 100500, 0), -1);
        due("order(-1, ..)", x.order(-1, 0, 100500, 0), -1);
        due("order, stuff 2", x.order(0, 2, 100500, 0), -1);
        due("order, stuff -1", x.order(0, -1, 100500, 0), -1);
        due("order, no law, bad", x.order(1, 0, 0, 9), -1);
        int[] bad = {-1, 0, 500, 10000, 102100, 610500, Integer.MAX_VALUE, Integer.MIN_VALUE};
        for (int b : bad) {
            due("order, doing " + b, x.order(0, 0, b, 0), -2);
        }
        due("order, k 5", x.order(0, 0, 100500, 5), -2);
        due("order, k -1", x.order(0, 0, 100500, -1), -2);
    }

    // Promise 14
    private static void want() {
        HoneyWinds x = new HoneyWinds();
        due("want(5)", x.want(5), -2);
        due("want(-2)", x.want(-2), -2);
        due("want(max)", x.want(Integer.MAX_VALUE), -2);
        due("want(-1) of an empty row", x.want(-1), 0);
        for (int i = 1; i <= 8; i++) {
            due("want " + i, x.want(i % 5), i);
            due("want " + i + ": count(4)", x.count(4), i);
        }
        due("a ninth", x.want(0), -4);
        due("a ninth, bad", x.want(5), -2);
        due("full: count(4)", x.count(4), 8);
        due("want(-1)", x.want(-1), 0);
        due("want(-1): count(4)", x.count(4), 0);
        due("want(4) anew", x.want(4), 1);
    }

    private static void row(HoneyWinds x, int... forms) {
        x.want(-1);
        for (int f : forms) {
            x.want(f);
        }
    }

    private static void found(HoneyWinds x, int law, int n, int sum, int... paces) {
        due("law " + law + ", found by " + n + ": sum", x.found(law, 0, 100500, n, -1), sum);
        for (int i = 0; i < paces.length; i++) {
            due("law " + law + ", found by " + n + ": PACE " + i, x.found(law, 0, 100577, n, i), paces[i]);
        }
    }

    // Promise 15
    private static void found() {
        HoneyWinds x = with(TEN);
        found(x, 0, 0, 0);
        row(x, 0);
        found(x, 0, 0, 0, 0);
        row(x, 4);
        found(x, 0, 99, 0, 12);
        row(x, 1, 3, 2);
        found(x, 0, 99, 5, 5, 9, 8);
        row(x, 1, 2, 3);
        found(x, 0, 99, 4, 5, 6, 9);
        found(x, 0, 3, 4, 5, 6, 9);
        row(x, 4, 0);
        found(x, 0, 99, 10, 12, 2);
        row(x, 0, 4, 0);
        found(x, 0, 99, 20, 2, 12, 2);
        row(x, 2, 2, 2);
        found(x, 0, 0, 0, 6, 6, 6);
    }

    private static void foundByN() {
        HoneyWinds x = with(TEN);
        row(x, 1, 2, 3);
        found(x, 0, 2, 4, 5, 7, 9);
        found(x, 0, 1, -5, -5, -5, -5);
        row(x, 1, 2, 2, 2, 3);
        found(x, 0, 1, 4, 5, 6, 7, 8, 9);
        row(x, 0, 4);
        found(x, 0, 10, 10, 2, 12);
        found(x, 0, 9, -5, -5, -5);
        row(x, 4, 0);
        found(x, 0, 10, 10, 12, 2);
        found(x, 0, 9, -5, -5, -5);
        row(x, 1, 2);
        found(x, 0, 0, -5, -5, -5);
        found(x, 0, 1, 1, 5, 6);
        row(x, 1, 3);
        found(x, 0, 3, -5, -5, -5);
        found(x, 0, 4, 4, 5, 9);
    }

    private static void foundSeveral() {
        HoneyWinds x = with(TEN, TWICE, "wind 10 h>0;form 1 0");
        row(x, 2, 1);
        found(x, 1, 99, 1, 6, 5);
        row(x, 1, 2);
        found(x, 1, 99, 1, 5, 6);
        row(x, 4, 1);
        found(x, 0, 99, 7, 12, 5);
        found(x, 1, 99, 1, 50, 51);
        row(x, 4, 1, 4);
        found(x, 1, 99, 2, 50, 51, 50);
        row(x, 1, 4, 3);
        found(x, 1, 99, 8, 5, 12, 11);
        row(x, 2, 1, 4);
        found(x, 1, 99, 8, 6, 5, 12);
        found(x, 1, 6, 10, 60, 54, 50);
        found(x, 1, 5, 10, 60, 55, 50);
        found(x, 1, 4, -5, -5, -5, -5);
        row(x, 2, 1, 1, 1, 4);
        found(x, 1, 99, 8, 6, 5, 5, 5, 12);
        found(x, 1, 4, 10, 60, 56, 52, 51, 50);
        found(x, 1, 2, -5, -5, -5, -5, -5, -5);
        row(x, 0);
        found(x, 2, 99, -5, -5);
        row(x, 1, 0, 1);
        found(x, 2, 99, -5, -5, -5, -5);
    }

    // TURNS 1: FORM 0 at PACE 0, 3 at 1, 4 from 2 on. TURNS 99: FORM 4 at 99 alone, 3 from 90 on.
    private static void foundAtTheEnds() {
        HoneyWinds x = with("wind 1 h>0", "wind 99 h>0;form 4 10");
        row(x, 3);
        found(x, 0, 0, 0, 1);
        row(x, 3, 0);
        found(x, 0, 1, 1, 1, 0);
        row(x, 4, 0, 4);
        found(x, 0, 99, 4, 2, 0, 2);
        row(x, 4, 3, 4);
        found(x, 1, 1, 2, 99, 98, 99);
        row(x, 3, 4);
        found(x, 1, 99, 1, 98, 99);
        row(x, 0, 4);
        found(x, 1, 99, 99 - 29, 29, 99);
    }

    private static void foundLong() {
        HoneyWinds x = with(TEN);
        row(x, 0, 1, 0, 1, 0, 1, 0, 4);
        found(x, 0, 99, 16, 2, 3, 2, 3, 2, 3, 2, 12);
        row(x, 4, 4, 4, 4, 4, 4, 4, 4);
        found(x, 0, 99, 0, 12, 12, 12, 12, 12, 12, 12, 12);
        row(x, 0, 1, 1, 2, 2, 3, 3, 4);
        found(x, 0, 2, 10, 2, 3, 4, 6, 7, 9, 10, 12);
    }

    private static void foundRefusals() {
        HoneyWinds x = with(TEN);
        due("found in an empty row, i 0", x.found(0, 0, 100500, 1, 0), -1);
        row(x, 0, 1);
        due("found, i 1", x.found(0, 0, 100500, 1, 1), 3);
        due("found, i 2", x.found(0, 0, 100500, 1, 2), -1);
        due("found, i -2", x.found(0, 0, 100500, 1, -2), -1);
        due("found(1, ..)", x.found(1, 0, 100500, 1, 0), -1);
        due("found(-1, ..)", x.found(-1, 0, 100500, 1, 0), -1);
        due("found, stuff 2", x.found(0, 2, 100500, 1, 0), -1);
        due("found, stuff -1", x.found(0, -1, 100500, 1, 0), -1);
        due("found, i 2, bad", x.found(0, 0, 0, 100, 2), -1);
        due("found, doing", x.found(0, 0, 0, 1, 0), -2);
        due("found, doing -1", x.found(0, 0, -1, 1, -1), -2);
        due("found, n -1", x.found(0, 0, 100500, -1, 0), -2);
        due("found, n 100", x.found(0, 0, 100500, 100, -1), -2);
        row(x);
        due("found in an empty row, n 100", x.found(0, 0, 100500, 100, -1), -2);
        due("found in an empty row, doing", x.found(0, 0, 500, 10, -1), -2);
        Due.law(x, 4, 2, "wind 10 h>0");
        row(x, 1);
        due("found by EITHER that is not HIGH", x.found(1, 1, 200500, 1, 0), 3);
        due("found by EITHER that is HIGH", x.found(1, 1, 210500, 1, 0), 4);
    }

    private static void bears(HoneyWinds x, int height, int greatest) {
        int doing = height * 10000 + 505;
        due("bears at " + height + ", the greatest", x.bears(0, 0, doing, -1), greatest);
        for (int n = 0; n <= 20; n++) {
            due("bears at " + height + " by " + n, x.bears(0, 0, doing, n), n <= greatest ? 1 : 0);
        }
    }

    // Promise 16
    private static void bears() {
        HoneyWinds x = with("wind 10 h>0;wind 10 h>30");
        int[][] due = {{25, 5}, {30, 0}, {31, 0}, {32, 1}, {50, 19}, {51, 20}, {60, 20}, {11, 19}, {10, 20}, {1, 20}};
        for (int[] d : due) {
            bears(x, d[0], d[1]);
        }
        HoneyWinds y = with(TEN, "wind 10 h>0;wind 10 h=1", "wind 10 h>0;wind 10 h=60");
        due("bears all", y.bears(0, 0, 300599, -1), 20);
        due("bears but for HEIGHT 1", y.bears(1, 0, 50505, -1), 3);
        due("bears but for HEIGHT 1, at 1", y.bears(1, 0, 10505, -1), 0);
        due("bears but for HEIGHT 60", y.bears(2, 0, 550505, -1), 4);
        due("bears by FORM, not by TURNS", y.bears(2, 0, 550500, -1), 20);
        Due.law(y, 4, 3, "wind 10 h>0");
        due("bears EITHER", y.bears(3, 1, 280503, -1), 2);
        Due.law(y, 0, 1, "wind 10 h>0;wind 10 h>60");
        due("bears where there is no more HEIGHT", y.bears(4, 0, 600505, -1), 20);
        Due.law(y, 0, 1, "wind 10 h>0;wind 10 h<1");
        due("bears where there is no less HEIGHT", y.bears(5, 0, 10505, -1), 20);
    }

    private static void bearsRefusals() {
        HoneyWinds x = with(TEN);
        due("bears(1, ..)", x.bears(1, 0, 100500, 0), -1);
        due("bears(-1, ..)", x.bears(-1, 0, 100500, 0), -1);
        due("bears, stuff 2", x.bears(0, 2, 100500, 0), -1);
        due("bears, stuff -1", x.bears(0, -1, 100500, 0), -1);
        due("bears, no law, bad", x.bears(1, 0, 0, 0), -1);
        due("bears, n 21", x.bears(0, 0, 100500, 21), -2);
        due("bears, n -2", x.bears(0, 0, 100500, -2), -2);
        due("bears, doing", x.bears(0, 0, 610500, 0), -2);
        due("bears, doing -1", x.bears(0, 0, -1, -1), -2);
        due("bears, n 20", x.bears(0, 0, 100500, 20), 1);
    }
}
