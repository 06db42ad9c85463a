/** Promises 17 to 23: film, off, which, fits, read, next, two. */
public final class FilmsTest {
    private static final String TEN = "wind 10 h>0";

    public static void main(String[] args) {
        film();
        off();
        which();
        fits();
        read();
        readByPace();
        readRefusals();
        next();
        nextRefusals();
        two();
        twoByFlows();
        twoRefusals();
        Due.end();
    }

    private static void due(String call, long got, long want) {
        Due.due(call, got, want);
    }

    private static HoneyWinds with(String... laws) {
        HoneyWinds x = new HoneyWinds();
        x.stuff(4, 9);
        x.stuff(20, 1);
        x.stuff(1, 20);
        for (String law : laws) {
            Due.law(x, 0, 1, law);
        }
        return x;
    }

    // Promise 17
    private static void film() {
        HoneyWinds x = new HoneyWinds();
        due("film, no stuff", x.film(0, 100500, 5), -1);
        due("film, no stuff, bad", x.film(0, 0, -1), -1);
        x.stuff(1, 1);
        due("film, stuff -1", x.film(-1, 100500, 5), -1);
        due("film, stuff 1", x.film(1, 100500, 5), -1);
        int[] bad = {-1, 0, 10000, 102100, 610500, Integer.MAX_VALUE, Integer.MIN_VALUE};
        for (int b : bad) {
            due("film, doing " + b, x.film(0, b, 5), -2);
        }
        due("film, turns -1", x.film(0, 100500, -1), -2);
        due("film, turns 1000", x.film(0, 100500, 1000), -2);
        due("refused films: count(2)", x.count(2), 0);
        for (int i = 0; i < 12; i++) {
            due("film " + i, x.film(0, 10100 + i, i % 2 == 0 ? 0 : 999), i);
            due("film " + i + ": count(2)", x.count(2), i + 1);
        }
        due("a 13th film", x.film(0, 100500, 5), -4);
        due("a 13th film, bad", x.film(0, 100500, 1000), -2);
        due("a 13th film, no stuff", x.film(1, 100500, 5), -1);
        due("full: count(2)", x.count(2), 12);
    }

    // Promise 18
    private static void off() {
        HoneyWinds x = with("wind 10 h>0;wind 5 p=7;wind 3 g=20");
        Due.law(x, 4, 3, TEN);
        due("off, no films", x.off(0), 0);
        x.film(0, 100500, 10);
        due("off, a film that fits", x.off(0), 0);
        x.film(0, 100507, 12);
        due("off by 3", x.off(0), 3);
        x.film(2, 100500, 20);
        due("off by 3 and 7", x.off(0), 10);
        x.film(1, 400500, 999);
        due("off by 10 and 989", x.off(0), 999);
        // EITHER: HANGING 27 by 4, 3 by 20, 60 by 1; HIGH above 30.
        due("off of EITHER", x.off(1), 6 + 4 + 50 + 986);
        due("off(2)", x.off(2), -1);
        due("off(-1)", x.off(-1), -1);
        due("off(max)", x.off(Integer.MAX_VALUE), -1);
        HoneyWinds y = with(TEN);
        for (int i = 0; i < 12; i++) {
            y.film(i % 3, 100500, 999);
        }
        due("off by twelve", y.off(0), 12 * 989);
    }

    // Promise 19
    private static void which() {
        HoneyWinds x = with();
        due("which, no laws", x.which(), -5);
        x.film(0, 100500, 12);
        due("which, no laws but a film", x.which(), -5);
        Due.law(x, 0, 1, TEN);
        due("which of one", x.which(), 0);
        Due.law(x, 0, 1, "wind 14 h>0");
        due("which of two that are off by 2", x.which(), 0);
        Due.law(x, 0, 1, "wind 13 h>0");
        due("which is off by 1", x.which(), 2);
        Due.law(x, 0, 1, "wind 11 h>0");
        due("which of two that are off by 1", x.which(), 2);
        Due.law(x, 0, 1, "wind 12 h>0");
        due("which is off by 0", x.which(), 4);
        x.film(0, 100500, 10);
        x.film(0, 100500, 10);
        due("which of three films", x.which(), 0);
        HoneyWinds y = with("wind 9 h>0", TEN);
        due("which, no films", y.which(), 0);
    }

    // Promise 20
    private static void fits() {
        HoneyWinds x = with(TEN);
        due("fits, no films", x.fits(0, 99), 0);
        int[] counted = {10, 11, 9, 12, 8, 10, 109, 110, 0, 999, 10, 20};
        for (int c : counted) {
            x.film(0, 100500, c);
        }
        due("fits by 0", x.fits(0, 0), 1 | 1 << 5 | 1 << 10);
        due("fits by 1", x.fits(0, 1), 1 | 2 | 4 | 1 << 5 | 1 << 10);
        due("fits by 2", x.fits(0, 2), 31 | 1 << 5 | 1 << 10);
        due("fits by 10", x.fits(0, 10), 63 | 1 << 8 | 1 << 10 | 1 << 11);
        due("fits by 98", x.fits(0, 98), 63 | 1 << 8 | 1 << 10 | 1 << 11);
        due("fits by 99", x.fits(0, 99), 127 | 1 << 8 | 1 << 10 | 1 << 11);
        due("fits by 100", x.fits(0, 100), -2);
        due("fits by -1", x.fits(0, -1), -2);
        due("fits(1, ..)", x.fits(1, 5), -1);
        due("fits(-1, ..)", x.fits(-1, 5), -1);
        due("fits(1, ..), bad", x.fits(1, 100), -1);
    }

    private static void read(HoneyWinds x, int law, int turns, int form, int many, int first, int last) {
        String call = "read of law " + law + " by " + turns + " and FORM " + form;
        due(call + ", how many", x.read(law, 0, 5, turns, form, 0), many);
        due(call + ", the first", x.read(law, 0, 5, turns, form, 1), first);
        due(call + ", the last", x.read(law, 0, 5, turns, form, 2), last);
    }

    // Promise 21
    private static void read() {
        HoneyWinds x = with(TEN, "wind 10 h>0;wind 10 h>30&h<34;ease 3 f=6");
        read(x, 0, 10, 0, 180, 100, 6002);
        read(x, 0, 10, 1, 180, 103, 6005);
        read(x, 0, 10, 2, 180, 106, 6008);
        read(x, 0, 10, 3, 180, 109, 6011);
        read(x, 0, 10, 4, 88 * 60, 112, 6099);
        read(x, 0, 11, 4, 0, -5, -5);
        read(x, 0, 0, 0, 0, -5, -5);
        read(x, 0, 999, 0, 0, -5, -5);
        read(x, 1, 20, 1, 18, 3106, 3311);
        read(x, 1, 10, 1, 171, 103, 6005);
        due("read by FLOW 6", x.read(1, 0, 6, 17, 0, 1), 3100);
        Due.law(x, 4, 2, TEN);
        due("read of EITHER, HIGH", x.read(2, 1, 5, 12, 0, 1), 2100);
        due("read of EITHER, not HIGH", x.read(2, 1, 5, 10, 0, 2), 2002);
    }

    private static void readByPace() {
        HoneyWinds x = with("wind 10 h>0;wind 10 p=4", "wind 10 h>0;ease 5 p<1;wind 5 p>97", "wind 10 p>2&p<5;wind 9 h=7");
        read(x, 0, 20, 0, 60, 104, 6004);
        read(x, 0, 10, 1, 120, 103, 6005);
        read(x, 1, 5, 0, 60, 100, 6000);
        read(x, 1, 15, 4, 120, 198, 6099);
        read(x, 1, 10, 0, 120, 101, 6002);
        read(x, 2, 10, 1, 118, 103, 6004);
        read(x, 2, 19, 0, 2, 703, 704);
        read(x, 2, 9, 1, 1, 705, 705);
        read(x, 2, 1, 4, 59 * 96, 102, 6099);
        Due.law(x, 0, 1, "wind 10 h>0;wind 1 p>98");
        Due.law(x, 0, 1, "wind 10 h>0;wind 1 p=98");
        Due.law(x, 0, 1, "wind 10 h>0;wind 1 p<99");
        read(x, 3, 11, 4, 60, 199, 6099);
        read(x, 4, 11, 4, 60, 198, 6098);
        read(x, 5, 10, 4, 60, 199, 6099);
    }

    private static void readRefusals() {
        HoneyWinds x = with(TEN);
        due("read(1, ..)", x.read(1, 0, 5, 10, 0, 0), -1);
        due("read(-1, ..)", x.read(-1, 0, 5, 10, 0, 0), -1);
        due("read, stuff 3", x.read(0, 3, 5, 10, 0, 0), -1);
        due("read, stuff -1", x.read(0, -1, 5, 10, 0, 0), -1);
        due("read, what 3", x.read(0, 0, 5, 10, 0, 3), -1);
        due("read, what -1", x.read(0, 0, 5, 10, 0, -1), -1);
        due("read, what 3, bad", x.read(0, 0, 0, 1000, 5, 3), -1);
        due("read, flow 0", x.read(0, 0, 0, 10, 0, 0), -2);
        due("read, flow 21", x.read(0, 0, 21, 10, 0, 0), -2);
        due("read, turns -1", x.read(0, 0, 5, -1, 0, 0), -2);
        due("read, turns 1000", x.read(0, 0, 5, 1000, 0, 0), -2);
        due("read, form -1", x.read(0, 0, 5, 10, -1, 0), -2);
        due("read, form 5", x.read(0, 0, 5, 10, 5, 0), -2);
        due("read, flow 20", x.read(0, 0, 20, 10, 0, 0), 180);
    }

    // Promise 22
    private static void next() {
        HoneyWinds x = with(TEN);
        due("next of one law", x.next(0, 5), 1);
        Due.law(x, 0, 1, "wind 10 h>0;wind 5 h>20;ease 2 h>40");
        due("next of two: 5 apart from 21 on", x.next(0, 5), 21);
        Due.law(x, 0, 1, "wind 10 h>0;ease 1 h=30;wind 1 f=6");
        due("next of three: 6 apart at 30", x.next(0, 5), 30);
        due("next by FLOW 6: 5 apart from 21 on", x.next(0, 6), 21);
        Due.law(x, 0, 1, "wind 10 h>0;ease 9 h=60;wind 99 p>0;ease 5 h=1");
        due("next of four: 12 apart at 60", x.next(0, 5), 60);
        Due.law(x, 3, 1, "wind 20 h<60");
        // At 59: 20 and 118, less 10; at 60: 1 and 120, less 1.
        due("next of FLUNG with STIFF 1 at 59", x.next(2, 20), 59);
        Due.law(x, 0, 1, "wind 99 h=1;wind 99 h=1");
        due("next at 1", x.next(0, 5), 1);
        HoneyWinds y = with("wind 99 h=60", TEN);
        due("next at the last", y.next(0, 5), 60);
        HoneyWinds z = with(TEN);
        Due.law(z, 4, 5, TEN);
        due("next of EITHER, HIGH from 51 on", z.next(1, 5), 51);
        HoneyWinds w = with(TEN, "wind 10 h>0;wind 1 h=8");
        due("next, 1 apart at 8", w.next(0, 5), 8);
    }

    private static void nextRefusals() {
        HoneyWinds x = new HoneyWinds();
        due("next, no stuff, no law", x.next(0, 5), -1);
        x.stuff(1, 1);
        due("next, no law", x.next(0, 5), -5);
        due("next, no law, flow 0", x.next(0, 0), -2);
        due("next, no law, flow 21", x.next(0, 21), -2);
        due("next, no law, stuff 1", x.next(1, 0), -1);
        Due.law(x, 0, 1, TEN);
        due("next, stuff -1", x.next(-1, 5), -1);
        due("next, flow 0", x.next(0, 0), -2);
        due("next, flow 21", x.next(0, 21), -2);
        due("next, flow 20", x.next(0, 20), 1);
    }

    // Promise 23
    private static void two() {
        HoneyWinds x = with(TEN, "wind 3 h>0;wind 4 g=20", "wind 10 h<20;wind 30 h>19", "wind 2 h>0;wind 99 p>0");
        due("two, 10 and 10", x.two(0, 0, 0, 20, 505), -5);
        due("two, 10 and 10, farther", x.two(0, 0, 0, 21, 505), 1);
        due("two, 33 and 14", x.two(1, 0, 2, 47, 505), -5);
        due("two, 33 and 14, farther", x.two(1, 0, 2, 48, 505), 1);
        due("two, 14 and 33", x.two(1, 2, 0, 47, 505), -5);
        due("two, 33 and 33", x.two(1, 0, 1, 66, 505), -5);
        due("two, 33 and 33, farther", x.two(1, 0, 1, 67, 505), 1);
        due("two, 3 and 3 from 20 on", x.two(2, 0, 1, 7, 505), 20);
        due("two, 3 and 3 are still enough", x.two(2, 0, 1, 6, 505), -5);
        due("two of PACE 0", x.two(3, 0, 1, 99, 505), -5);
        due("two by d 1", x.two(0, 0, 0, 1, 505), -5);
        HoneyWinds y = with("wind 10 h<60;wind 99 h=60;wind 1 h=60&g=9;wind 2 h=60&g=1");
        due("two, at 60 alone: 1 and 0", y.two(0, 0, 1, 2, 505), 60);
        due("two, at 60 they join", y.two(0, 0, 1, 1, 505), -5);
        due("two, 100 by 101 is 0", y.two(0, 1, 1, 1, 505), 60);
    }

    private static void twoByFlows() {
        HoneyWinds x = with("wind 10 f<10;wind 50 f>9");
        due("two, 10 and 2", x.two(0, 0, 1, 12, 512), -5);
        due("two, 10 and 2, farther", x.two(0, 0, 1, 13, 512), 1);
        due("two, 2 and 10", x.two(0, 0, 1, 12, 1205), -5);
        due("two, 2 and 2", x.two(0, 0, 1, 5, 2020), 1);
        due("two, 10 and 10", x.two(0, 0, 1, 20, 101), -5);
        Due.law(x, 3, 1, "wind 10 h>0");
        // STUFF 2 by FLOW 10: 10 and HEIGHT; STUFF 1 by FLOW 1: 10. So 100 by (10 and HEIGHT), and 10.
        due("two FLUNG, one by 10, other by 1", x.two(1, 2, 1, 15, 1001), 11);
        due("two FLUNG, one by 1, other by 10", x.two(1, 1, 2, 15, 110), 11);
        // 10 and a tenth of HEIGHT; 10 and a twentieth: at 50 100 by 15, and 100 by 12.
        due("two FLUNG, flows the other way", x.two(1, 2, 1, 15, 110), 50);
        Due.law(x, 4, 2, "wind 10 h>0");
        due("two EITHER, not HIGH till 20", x.two(2, 1, 1, 17, 505), 21);
    }

    private static void twoRefusals() {
        HoneyWinds x = with(TEN);
        due("two(1, ..)", x.two(1, 0, 0, 5, 505), -1);
        due("two(-1, ..)", x.two(-1, 0, 0, 5, 505), -1);
        due("two, stuff 3", x.two(0, 3, 0, 5, 505), -1);
        due("two, stuff -1", x.two(0, -1, 0, 5, 505), -1);
        due("two, other 3", x.two(0, 0, 3, 5, 505), -1);
        due("two, other -1", x.two(0, 0, -1, 5, 505), -1);
        due("two, other 3, bad", x.two(0, 0, 3, 0, 0), -1);
        due("two, d 0", x.two(0, 0, 0, 0, 505), -2);
        due("two, d 100", x.two(0, 0, 0, 100, 505), -2);
        due("two, d 99", x.two(0, 0, 0, 99, 505), 1);
        int[] bad = {0, 5, 500, 2105, 521, 599, -505, -1, 100505, Integer.MAX_VALUE, Integer.MIN_VALUE};
        for (int b : bad) {
            due("two, flows " + b, x.two(0, 0, 0, 5, b), -2);
        }
    }
}
