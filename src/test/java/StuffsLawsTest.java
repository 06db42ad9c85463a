/** Promises 1 to 7: a new object, stuff, of, feed, law, told, winds. */
public final class StuffsLawsTest {
    private static final String LONGEST = "wind 1 h>0;wind 1 h>0;wind 1 h>0;wind 1 h>0;wind 1 h>0;"
            + "wind 1 h>0;wind 1 h>0;wind 1 h>0;wind 1 h>0;wind 12 f<3|p=40|h>1|";

    public static void main(String[] args) {
        newObject();
        stuff();
        of();
        feed();
        law();
        lawSettings();
        faults();
        faultsOfOpenParts();
        told();
        windsRefusals();
        base();
        tests();
        signs();
        turns();
        turnsLimit();
        form();
        Due.end();
    }

    private static void due(String call, long got, long want) {
        Due.due(call, got, want);
    }

    private static HoneyWinds withStuffs() {
        HoneyWinds x = new HoneyWinds();
        x.stuff(4, 9);
        x.stuff(20, 1);
        x.stuff(1, 20);
        return x;
    }

    // Promise 1
    private static void newObject() {
        HoneyWinds x = new HoneyWinds();
        for (int what = 0; what <= 6; what++) {
            due("new: count(" + what + ")", x.count(what), 0);
        }
        due("new: of(0, 0)", x.of(0, 0), -1);
        due("new: told(0, 0)", x.told(0, 0), -1);
        due("new: off(0)", x.off(0), -1);
        due("new: which()", x.which(), -5);
        due("new: trace(0)", x.trace(0), -1);
        due("new: undo()", x.undo(), -3);
        due("new: act(0, 0, 5)", x.act(0, 0, 5), 0);
        due("new: run(0, 0, 0)", x.run(0, 0, 0), -1);
    }

    // Promise 2
    private static void stuff() {
        HoneyWinds x = new HoneyWinds();
        int[][] bad = {{0, 1}, {1, 0}, {21, 1}, {1, 21}, {-1, 5}, {5, -1}, {Integer.MIN_VALUE, 1}, {1, Integer.MAX_VALUE}};
        for (int[] b : bad) {
            due("stuff(" + b[0] + ", " + b[1] + ")", x.stuff(b[0], b[1]), -2);
        }
        due("bad stuffs: count(0)", x.count(0), 0);
        int[][] good = {{1, 1}, {20, 20}, {1, 20}, {20, 1}, {7, 8}};
        for (int i = 0; i < 5; i++) {
            due("stuff " + i, x.stuff(good[i][0], good[i][1]), i);
        }
        due("a sixth stuff", x.stuff(1, 1), -4);
        due("a sixth stuff, bad", x.stuff(0, 1), -2);
        due("full: count(0)", x.count(0), 5);
        for (int i = 0; i < 5; i++) {
            due("of(" + i + ", 0)", x.of(i, 0), good[i][0]);
            due("of(" + i + ", 1)", x.of(i, 1), good[i][1]);
        }
    }

    // Promise 3
    private static void of() {
        HoneyWinds x = withStuffs();
        due("of(0, 0)", x.of(0, 0), 4);
        due("of(0, 1)", x.of(0, 1), 9);
        due("of(2, 0)", x.of(2, 0), 1);
        due("of(2, 1)", x.of(2, 1), 20);
        due("of(3, 0)", x.of(3, 0), -1);
        due("of(-1, 0)", x.of(-1, 0), -1);
        due("of(0, 2)", x.of(0, 2), -1);
        due("of(0, -1)", x.of(0, -1), -1);
        due("of(max, min)", x.of(Integer.MAX_VALUE, Integer.MIN_VALUE), -1);
    }

    // Promise 4
    private static void feed() {
        HoneyWinds x = new HoneyWinds();
        due("feed(0, 0)", x.feed(0, 0), -2);
        due("feed(0, 9)", x.feed(0, 9), -2);
        due("feed(0, -1)", x.feed(0, -1), -2);
        due("bad feeds: count(5)", x.count(5), 0);
        due("feed of 8", x.feed(0x77696e6420312068L, 8), 8);
        due("feed of 2, with more above", x.feed(0x7878787878783e30L, 2), 10);
        due("law of wind 1 h>0", x.law(0, 1), 0);
        due("feed of 3", x.feed(0x686561L, 3), 3);
        due("feed of 1", x.feed(0x70L, 1), 4);
        due("feed of 3 more", x.feed(0x203137L, 3), 7);
        due("law of heap 17", x.law(0, 1), 1);
        due("told(1, 2)", x.told(1, 2), 17);
        for (int i = 1; i <= 14; i++) {
            due("feed " + i + " of 8", x.feed(-1L, 8), 8 * i);
        }
        due("feed of 7", x.feed(0, 7), 119);
        due("feed of 2 is too much", x.feed(0, 2), -4);
        due("feed of 8 is too much", x.feed(0, 8), -4);
        due("feed of 9, full", x.feed(0, 9), -2);
        due("too much: count(5)", x.count(5), 119);
        due("feed of the last", x.feed(0, 1), 120);
        due("feed of one more", x.feed(0, 1), -4);
        due("law of bytes that are no letters", x.law(0, 1), -10);
        due("count(5) behind a fault", x.count(5), 0);
    }

    // Promise 5
    private static void law() {
        HoneyWinds x = new HoneyWinds();
        Due.feed(x, "cool 7");
        due("law(-1, 1)", x.law(-1, 1), -1);
        due("law(7, 1)", x.law(7, 1), -1);
        due("law(7, 0)", x.law(7, 0), -1);
        due("law(0, 0)", x.law(0, 0), -2);
        due("law(0, 10)", x.law(0, 10), -2);
        due("refused laws: count(5)", x.count(5), 6);
        due("refused laws: count(1)", x.count(1), 0);
        for (int i = 0; i < 7; i++) {
            due("law " + i, x.law(i, i + 1), i);
            due("law " + i + ": count(5)", x.count(5), 0);
            due("law " + i + ": told kind", x.told(i, 0), i);
            due("law " + i + ": told v", x.told(i, 1), i + 1);
            due("law " + i + ": told cool", x.told(i, 3), 7);
            Due.feed(x, "cool 7");
        }
        due("law(0, 9)", x.law(0, 9), 7);
        Due.feed(x, "cool 8");
        due("a ninth law", x.law(0, 9), -4);
        due("a ninth law of no kind", x.law(7, 9), -1);
        due("a ninth law, bad", x.law(0, 10), -2);
        due("a ninth law: count(5)", x.count(5), 6);
        due("a ninth law: count(1)", x.count(1), 8);

        HoneyWinds y = new HoneyWinds();
        due("the longest tape, ending too early", Due.feed(y, LONGEST), 120);
        due("its fault", y.law(0, 1), -130);
        due("the longest tape", Due.feed(y, LONGEST.replace("h>1|", "!f=9")), 120);
        due("its law", y.law(0, 1), 0);
    }

    private static void lawSettings() {
        HoneyWinds x = new HoneyWinds();
        Due.law(x, 0, 1, "form 1 5;form 2 0;form 1 99;heap 0;cool 9;heap 31;cool 10;form 4 1");
        int[] due = {99, 0, 9, 1};
        for (int k = 1; k <= 4; k++) {
            due("told(0, " + (10 + k) + ")", x.told(0, 10 + k), due[k - 1]);
        }
        due("told(0, 2), the last", x.told(0, 2), 31);
        due("told(0, 3), the last", x.told(0, 3), 10);
        Due.law(x, 0, 1, "wind 0 p<0");
        for (int k = 1; k <= 4; k++) {
            due("told(1, " + (10 + k) + "), without", x.told(1, 10 + k), 3 * k);
        }
        due("told(1, 2), without", x.told(1, 2), 20);
        due("told(1, 3), without", x.told(1, 3), 0);
        due("a fault", Due.law(x, 0, 1, "heap 5;cool 5;form 1 5;"), -33);
        due("the law behind a fault", Due.law(x, 0, 1, "wind 1 h>0"), 2);
        due("told(2, 2): nothing stays of the fault's", x.told(2, 2), 20);
        due("told(2, 3): nothing stays of the fault's", x.told(2, 3), 0);
        due("told(2, 11): nothing stays of the fault's", x.told(2, 11), 3);
    }

    private static void fault(String text, int place) {
        HoneyWinds x = new HoneyWinds();
        due("law of '" + text + "'", Due.law(x, 0, 1, text), -10 - place);
        due("law of '" + text + "': count(5)", x.count(5), 0);
        due("law of '" + text + "': count(1)", x.count(1), 0);
    }

    private static void fine(String text) {
        due("law of '" + text + "'", Due.law(new HoneyWinds(), 0, 1, text), 0);
    }

    private static void faults() {
        fault("", 0);
        fault(";", 0);
        fault(" heap 1", 0);
        fault("Wind 1 h>0", 0);
        fault("w", 1);
        fault("win", 3);
        fault("wind", 4);
        fault("wind ", 5);
        fault("wind1", 4);
        fault("wind  1", 5);
        fault("wind 1", 6);
        fault("wind 12", 7);
        fault("wind 123 h>0", 7);
        fault("wind 00 h>0", 6);
        fault("wind -1 h>0", 5);
        fault("wind 1 ", 7);
        fault("wind 1;", 6);
        fault("wind 1  h>0", 7);
        fault("wind 1 h", 8);
        fault("wind 1 hh", 8);
        fault("wind 1 h>", 9);
        fault("wind 1 h>=1", 9);
        fault("wind 1 h>01", 10);
        fault("wind 1 h>123", 11);
        fault("wind 1 h>1 ", 10);
        fault("wind 1 h>1)", 10);
        fault("wind 1 h>1|", 11);
        fault("wind 1 h>1||h>1", 11);
        fault("wind 1 h>1&", 11);
        fault("wind 1 h>1&|h>1", 11);
        fault("wind 1 h>1h>1", 10);
        fault("wind 1 !", 8);
        fault("wind 1 !&h>1", 8);
        fault("wind 1 h!1", 8);
        fault("wind 1 ()", 8);
        fault("wind 1 (h>1", 11);
        fault("wind 1 (h>1;heap 1", 11);
        fault("wind 1 (h>1))", 12);
        fault("wind 1 (h>1)h>1", 12);
        fault("wind 1 x>1", 7);
        fault("wind 1 5>h", 7);
        fault("form", 4);
        fault("form ", 5);
        fault("form 0 1", 5);
        fault("form 5 1", 5);
        fault("form 11 1", 6);
        fault("form 1", 6);
        fault("form 1 ", 7);
        fault("form 1 07", 8);
        fault("form 1 100", 9);
        fault("heap", 4);
        fault("heap x", 5);
        fault("heap 1 ", 6);
        fault("heap 00", 6);
        fault("cool 999", 7);
        fault("cool 1;", 7);
        fault("cool 1;;cool 1", 7);
        fault("cool 1,cool 1", 6);
        fault("ease 1 h>1;x", 11);
        fault("eas 1", 3);
        fault("wi\u00eed 1 h>1", 2);
        fault("cool 1\u0000", 6);
        fault("h>1", 1);
        String ten = "heap 1;heap 1;heap 1;heap 1;heap 1;heap 1;heap 1;heap 1;heap 1;heap 1";
        fine(ten);
        fault(ten + ";", 69);
        fault(ten + ";heap 1", 69);
        fault("wind 1 h>1|h>1|h>1|h>1|h>1|h>1|h>1|h>1|h>1|h>1|h>1|h>1|h>1|h>1|h>1|h>1|h>1|h>1|h>1|h>1|h>1|"
                + "h>1|h>1|h>1|h>1|h>1|h>1|h>1|", 119);
        fine("wind 1 h>1|h>1|h>1|h>1|h>1|h>1|h>1|h>1|h>1|h>1|h>1|h>1|h>1|h>1|h>1|h>1|h>1|h>1|h>1|h>1|h>1|"
                + "h>1|h>1|h>1|h>1|h>1|h>1|h>10");
    }

    private static void faultsOfOpenParts() {
        fine("wind 1 !!!!!h>1");
        fine("wind 1 (((((h>1)))))");
        fine("wind 1 !(!(!h>1))");
        fine("wind 1 !!!!!h>1&!!!!!h>1|!!!!!h>1");
        fine("wind 1 (((((h>1)))))&(((((h>1)))))");
        fine("wind 1 (!(!!h>1)&!(!!h>1))");
        fine("wind 1 ((((h>1&!h>1)|!h>1)|!h>1)|!h>1)|!!!!!h>1");
        fault("wind 1 !!!!!!h>1", 12);
        fault("wind 1 ((((((h>1))))))", 12);
        fault("wind 1 !(!(!(h>1)))", 12);
        fault("wind 1 (((((!h>1)))))", 12);
        fault("wind 1 (((((h>1&!h>1)))))", 16);
        fault("wind 1 ((((!h>1|!(h>1)))))", 17);
        fault("wind 1 (((((h>1))))", 19);
        fault("wind 1 ((((h>1|h>1|!!h>1))))", 20);
    }

    // Promise 6
    private static void told() {
        HoneyWinds x = new HoneyWinds();
        Due.law(x, 4, 9, "heap 40;cool 41;form 1 42;form 2 43;form 3 44;form 4 45");
        int[][] due = {{0, 4}, {1, 9}, {2, 40}, {3, 41}, {11, 42}, {12, 43}, {13, 44}, {14, 45},
            {-1, -1}, {4, -1}, {10, -1}, {15, -1}, {Integer.MIN_VALUE, -1}, {Integer.MAX_VALUE, -1}};
        for (int[] d : due) {
            due("told(0, " + d[0] + ")", x.told(0, d[0]), d[1]);
        }
        due("told(1, 0)", x.told(1, 0), -1);
        due("told(-1, 0)", x.told(-1, 0), -1);
    }

    // Promise 7
    private static void windsRefusals() {
        HoneyWinds x = withStuffs();
        due("winds, no law", x.winds(0, 0, 100500, 0), -1);
        Due.law(x, 0, 1, "wind 7 h>0");
        due("winds(1, ..)", x.winds(1, 0, 100500, 0), -1);
        due("winds(-1, ..)", x.winds(-1, 0, 100500, 0), -1);
        due("winds, stuff 3", x.winds(0, 3, 100500, 0), -1);
        due("winds, stuff -1", x.winds(0, -1, 100500, 0), -1);
        due("winds, what 3", x.winds(0, 0, 100500, 3), -1);
        due("winds, what -1", x.winds(0, 0, 100500, -1), -1);
        due("winds, what 3 and doing", x.winds(0, 0, -1, 3), -1);
        int[] bad = {-1, 0, 500, 9999, 10000, 10099, 12100, 15000, 610100, 600099, 602100, -10100, Integer.MAX_VALUE,
            Integer.MIN_VALUE};
        for (int b : bad) {
            for (int what = 0; what <= 2; what++) {
                due("winds(0, 0, " + b + ", " + what + ")", x.winds(0, 0, b, what), -2);
            }
        }
        int[] good = {10100, 10199, 602099, 600100, 12000};
        for (int g : good) {
            due("winds(0, 0, " + g + ", 0)", x.winds(0, 0, g, 0), 7);
        }
    }

    private static void base() {
        HoneyWinds x = withStuffs();
        Due.law(x, 0, 1, "wind 9 h>10;wind 5 f=3;ease 2 p>50;ease 20 h>40");
        due("BASE, none holds", x.winds(0, 0, 100400, 0), 1);
        due("BASE, the first holds", x.winds(0, 0, 110400, 0), 9);
        due("BASE, two hold", x.winds(0, 0, 110300, 0), 14);
        due("BASE, two and an ease", x.winds(0, 0, 110351, 0), 12);
        due("BASE, eases are more", x.winds(0, 0, 410351, 0), 1);
        due("TURNS, eases are more", x.winds(0, 0, 410351, 1), 1);
        Due.law(x, 0, 1, "ease 99 h>0;wind 99 h>0;wind 99 h>0;wind 2 h>0;ease 99 h>0");
        due("BASE is told together", x.winds(1, 0, 100400, 0), 2);
        Due.law(x, 0, 1, "wind 0 h>0");
        due("BASE, wind 0", x.winds(2, 0, 100400, 0), 1);
        Due.law(x, 0, 1, "heap 3");
        due("BASE, no wind", x.winds(3, 0, 100400, 0), 1);
    }

    private static void tests() {
        HoneyWinds x = withStuffs();
        Due.law(x, 0, 1, "wind 2 h=10;wind 4 f=5;wind 8 p=20;wind 16 s=4;wind 32 g=9");
        due("all tests hold", x.winds(0, 0, 100520, 0), 62);
        due("HEIGHT does not", x.winds(0, 0, 110520, 0), 60);
        due("FLOW does not", x.winds(0, 0, 100620, 0), 58);
        due("PACE does not", x.winds(0, 0, 100521, 0), 54);
        due("STIFF and WEIGHT do not", x.winds(0, 1, 100520, 0), 14);
        Due.law(x, 0, 1, "wind 2 h<10;wind 4 h=10;wind 8 h>10;wind 16 s<20;wind 32 g>19");
        due("HEIGHT 9", x.winds(1, 0, 90500, 0), 18);
        due("HEIGHT 10", x.winds(1, 0, 100500, 0), 20);
        due("HEIGHT 11", x.winds(1, 0, 110500, 0), 24);
        due("STIFF 20, WEIGHT 1", x.winds(1, 1, 110500, 0), 8);
        due("STIFF 1, WEIGHT 20", x.winds(1, 2, 110500, 0), 56);
        Due.law(x, 0, 1, "wind 5 p<0|p>99|p=0&h<1;wind 7 p>98");
        due("numbers at the ends", x.winds(2, 0, 110599, 0), 7);
        due("numbers at the other ends", x.winds(2, 0, 110500, 0), 1);
    }

    /** With h, f, p, s the truths of a, b, c, d: a is HEIGHT 2, b FLOW 2, c PACE 2; else each is 1. */
    private static void sign(String e, int truths) {
        HoneyWinds x = withStuffs();
        String text = e.replace("a", "h=2").replace("b", "f=2").replace("c", "p=2");
        due("law of " + e, Due.law(x, 0, 1, "wind 50 " + text), 0);
        for (int i = 0; i < 8; i++) {
            int doing = 10101 + (i & 4) / 4 * 10000 + (i & 2) / 2 * 100 + (i & 1);
            due(e + " by " + i, x.winds(0, 0, doing, 0), (truths >> (7 - i) & 1) == 1 ? 50 : 1);
        }
    }

    private static void signs() {
        sign("a", 0b00001111);
        sign("!a", 0b11110000);
        sign("!!a", 0b00001111);
        sign("a|b", 0b00111111);
        sign("a&b", 0b00000011);
        sign("a|b&c", 0b00011111);
        sign("a&b|c", 0b01010111);
        sign("(a|b)&c", 0b00010101);
        sign("a&(b|c)", 0b00000111);
        sign("!a&b", 0b00110000);
        sign("!(a&b)", 0b11111100);
        sign("!a|b", 0b11110011);
        sign("!(a|b)", 0b11000000);
        sign("!!(a|b)", 0b00111111);
        sign("a&b&c", 0b00000001);
        sign("a|b|c", 0b01111111);
        sign("a&!b&c", 0b00000100);
        sign("a&!b|!a&b", 0b00111100);
        sign("(a|!(b&(c|!a)))", 0b11001111);
        sign("c|b&(a|c&(a|b&(a|c&(a|b))))", 0b01010111);
        sign("!a&!b&!c|a&b&c", 0b10000001);
    }

    private static void turns() {
        HoneyWinds x = withStuffs();
        for (int kind = 0; kind <= 6; kind++) {
            Due.law(x, kind, 3, "wind 10 h>0");
        }
        due("LAYING", x.winds(0, 2, 602000, 1), 10);
        due("SLOW, 60 over 7", x.winds(1, 0, 72000, 1), 18);
        due("SLOW, 60 over 60", x.winds(1, 0, 602000, 1), 11);
        due("SLOW, 57 over 60", x.winds(1, 0, 601900, 1), 10);
        due("SLOW, 60 over 1", x.winds(1, 0, 12000, 1), 70);
        due("HANGING, 27 over 4", x.winds(2, 0, 100500, 1), 16);
        due("HANGING, 3 over 20", x.winds(2, 1, 100500, 1), 10);
        due("HANGING, 60 over 1", x.winds(2, 2, 100500, 1), 70);
        due("FLUNG, 79 over 40", x.winds(3, 0, 10100 + 100 * 7, 1), 10);
        due("FLUNG, 40 over 40", x.winds(3, 0, 100400, 1), 11);
        due("FLUNG, 39 over 40", x.winds(3, 0, 130300, 1), 10);
        due("FLUNG, 1200 over 10", x.winds(3, 2, 602000, 1), 130);
        due("EITHER, HEIGHT 30", x.winds(4, 0, 300500, 1), 16);
        due("EITHER, HEIGHT 31", x.winds(4, 0, 310500, 1), 19);
        due("EITHER, HEIGHT 16, HIGH no more", x.winds(4, 0, 160500, 1), 16);
        due("SKINNED", x.winds(5, 0, 310500, 1), 16);
        due("SEWN, no more than BASE and 27", x.winds(6, 2, 602000, 1), 37);
        due("SEWN, less than that", x.winds(6, 2, 100500, 1), 15);
        due("SEWN, 270 over 10", x.winds(6, 2, 270100 + 900, 1), 37);
        due("SEWN, 26", x.winds(6, 2, 260100 + 900, 1), 36);
        for (int kind = 0; kind <= 6; kind++) {
            due("BASE of kind " + kind, x.winds(kind, 2, 602000, 0), 10);
        }
    }

    private static void turnsLimit() {
        HoneyWinds x = withStuffs();
        String most = "wind 99 h>0;wind 99 h>0;wind 99 h>0;wind 99 h>0;wind 99 h>0;wind 99 h>0;wind 99 h>0;"
                + "wind 99 h>0;wind 99 h>0;wind 99 h>0";
        due("the most winds", Due.law(x, 0, 9, most), 0);
        Due.law(x, 2, 9, most);
        Due.law(x, 6, 1, most);
        Due.law(x, 4, 9, most);
        due("BASE of 10 times 99", x.winds(0, 0, 100500, 0), 990);
        due("TURNS of it", x.winds(0, 0, 100500, 1), 990);
        due("HANGING, 999 at most", x.winds(1, 2, 100500, 1), 999);
        due("its BASE", x.winds(1, 2, 100500, 0), 990);
        due("HANGING, 990 and 20", x.winds(1, 0, 100500, 1), 999);
        due("HANGING, 990 and 0", x.winds(1, 1, 100500, 1), 990);
        due("SEWN, 999 at most", x.winds(2, 2, 602000, 1), 999);
        due("SEWN, 998", x.winds(2, 2, 400100 + 100, 1), 998);
        due("SEWN, 999", x.winds(2, 2, 450100 + 100, 1), 999);
    }

    private static void form() {
        HoneyWinds x = withStuffs();
        Due.law(x, 0, 1, "wind 10 h>0");
        int[][] due = {{0, 0}, {2, 0}, {3, 1}, {5, 1}, {6, 2}, {8, 2}, {9, 3}, {11, 3}, {12, 4}, {99, 4}};
        for (int[] d : due) {
            due("FORM at PACE " + d[0], x.winds(0, 0, 100500 + d[0], 2), d[1]);
        }
        Due.law(x, 0, 1, "wind 7 h>0;form 1 1;form 2 2;form 3 50;form 4 2");
        due("10 by 7", x.winds(1, 0, 100501, 2), 1);
        due("20 by 7", x.winds(1, 0, 100502, 2), 2);
        due("340 by 7: form 3 is not reached, though form 4 is", x.winds(1, 0, 100534, 2), 2);
        due("350 by 7", x.winds(1, 0, 100535, 2), 4);
        Due.law(x, 0, 1, "form 1 20;form 2 0;form 3 0;form 4 0");
        due("not even form 1", x.winds(2, 0, 100501, 2), 0);
        due("all at once", x.winds(2, 0, 100502, 2), 4);
        Due.law(x, 0, 1, "form 1 0");
        due("form 1 0 at PACE 0", x.winds(3, 0, 100500, 2), 1);
        Due.law(x, 0, 1, "wind 99 h>0;form 1 9;form 2 9;form 3 9;form 4 10");
        due("990 by 99", x.winds(4, 0, 100599, 2), 4);
        due("980 by 99", x.winds(4, 0, 100598, 2), 3);
        due("890 by 99", x.winds(4, 0, 100589, 2), 0);
    }
}
