import java.lang.reflect.Constructor;
import java.lang.reflect.Field;
import java.lang.reflect.Method;

/** Each sentence that names a boundary in part 3 of the document and in its promises 17 to 29, by a test of its own. */
public final class BoundsFilmsActsTest {
    private static final String TEN = "wind 10 h>0";
    // FORM 0 at PACE 0 alone, 4 at PACE 99 alone, 1 at all others.
    private static final String ENDS = "wind 10 h>0;form 1 1;form 2 99;form 3 99;form 4 99";

    public static void main(String[] args) throws ReflectiveOperationException {
        filmsTwelveAtMost();
        filmTurns();
        filmRefused();
        offSum();
        filmOfItsStuff();
        offNoFilms();
        whichLeast();
        whichNoLaws();
        fitsByNOrLess();
        fitsBits();
        fitsRefused();
        readHeightsPaces();
        readPaceTests();
        readFirstLast();
        readNone();
        readTurnsForms();
        readRefused();
        nextFurthest();
        nextLeastOfSeveral();
        nextPace0();
        nextNone();
        nextRefused();
        twoNoFarther();
        twoCut();
        twoHeights();
        twoD();
        twoNone();
        twoFlows();
        twoRefused();
        actWraps();
        actNumber();
        actBodies();
        actNone();
        traceKept();
        traceKeepsTwenty();
        traceNone();
        asKinds();
        asRefused();
        imageOfAll();
        imageAgain();
        undoNone();
        undoLessAndMore();
        countEmptyAndFull();
        countNone();
        call512();
        Due.end();
    }

    private static void due(String call, long got, long want) {
        Due.due(call, got, want);
    }

    private static HoneyWinds with(int stiff, int weight, int kind, int v, String law) {
        HoneyWinds x = new HoneyWinds();
        x.stuff(stiff, weight);
        Due.law(x, kind, v, law);
        return x;
    }

    private static HoneyWinds with(String... laws) {
        HoneyWinds x = new HoneyWinds();
        x.stuff(5, 5);
        for (String law : laws) {
            Due.law(x, 0, 1, law);
        }
        return x;
    }

    // ---- films

    private static void filmsTwelveAtMost() {
        Due.sentence("FILMS are numbered from 0 on, 12 at most");
        HoneyWinds x = with(TEN);
        for (int i = 0; i < 12; i++) {
            due("FILM " + i, x.film(0, 100500, 10 + (i % 2)), i);
            due("count(2)", x.count(2), i + 1);
            due("all of them", x.fits(0, 1), (1 << i + 1) - 1);
        }
        for (int i = 0; i < 3; i++) {
            due("one FILM more", x.film(0, 100500, 999), -4);
            due("count(2)", x.count(2), 12);
        }
        due("one FILM more, bad", x.film(0, 100500, 1000), -2);
        due("one FILM more, no STUFF", x.film(1, 100500, 999), -1);
        due("OFF", x.off(0), 6);
        due("those that fit", x.fits(0, 0), 0x555);
    }

    private static void filmTurns() {
        Due.sentence("TURNS that were counted (0 .. 999)");
        Due.within("film, TURNS", 0, 999, -2, n -> with(TEN).film(0, 100500, n));
        for (int turns : new int[] {0, 1, 9, 10, 11, 998, 999}) {
            HoneyWinds x = with(TEN);
            due("FILM of " + turns, x.film(0, 100500, turns), 0);
            due("OFF of " + turns, x.off(0), Math.abs(turns - 10));
        }
    }

    private static void filmRefused() {
        Due.sentence("A FILM: its number. NONE: stuff; BAD; FULL.");
        Due.within("film at HEIGHT", 1, 60, -2, n -> with(TEN).film(0, 10000 * n + 500, 5));
        Due.within("film by FLOW", 1, 20, -2, n -> with(TEN).film(0, 100000 + 100 * n, 5));
        Due.within("film of STUFF", 0, 0, -1, n -> with(TEN).film(n, 100500, 5));
        HoneyWinds x = with(TEN);
        due("doing -1", x.film(0, -1, 5), -2);
        due("no STUFF and bad", x.film(1, 0, 1000), -1);
        due("count(2)", x.count(2), 0);
        due("PACE 99", x.film(0, 602099, 5), 0);
    }

    private static void offSum() {
        Due.sentence("OFF of a LAW: the sum over FILMS of how far its TURNS are from those counted");
        HoneyWinds x = with(TEN, "wind 99 h>0", "wind 10 h>0;wind 7 p=99");
        int[] counted = {10, 11, 9, 0, 999};
        int[] due = {0, 1, 2, 12, 1001};
        for (int i = 0; i < counted.length; i++) {
            x.film(0, 602099, counted[i]);
            due("OFF by " + (i + 1) + " FILMS", x.off(0), due[i]);
        }
        due("OFF of 99", x.off(1), 89 + 88 + 90 + 99 + 900);
        due("OFF of 17 at PACE 99", x.off(2), 7 + 6 + 8 + 17 + 982);
        HoneyWinds most = with("heap 1");
        for (int i = 0; i < 12; i++) {
            most.film(0, 100500, 999);
        }
        due("OFF by 12 times 998", most.off(0), 11976);
        HoneyWinds either = with(20, 1, 4, 3, TEN);
        either.film(0, 300500, 10);
        due("OFF of EITHER at 10 times v", either.off(0), 0);
        either.film(0, 310500, 10);
        due("OFF of EITHER above it", either.off(0), 3);
    }

    private static void filmOfItsStuff() {
        Due.sentence("of a STUFF in a DOING, TURNS that were counted");
        HoneyWinds x = new HoneyWinds();
        for (int i = 1; i <= 5; i++) {
            x.stuff(i, 21 - i);
        }
        Due.law(x, 0, 1, "wind 10 s=1;wind 20 s=2;wind 30 s=3;wind 40 s=4;wind 50 s=5;wind 1 h=9;wind 2 f=8;wind 3 p=7");
        for (int i = 0; i < 5; i++) {
            x.film(i, 100500, 10 * (i + 1));
        }
        due("OFF of each in its STUFF", x.off(0), 0);
        x.film(0, 90500, 11);
        x.film(1, 100800, 22);
        x.film(2, 100507, 33);
        due("OFF of each in its DOING", x.off(0), 0);
        due("FITS", x.fits(0, 0), 255);
    }

    private static void offNoFilms() {
        Due.sentence("off: OFF. NONE.");
        HoneyWinds x = with(TEN);
        due("no FILMS", x.off(0), 0);
        Due.within("off of LAW", 0, 0, -1, n -> x.off(n));
        due("off of none at all", new HoneyWinds().off(0), -1);
    }

    private static void whichLeast() {
        Due.sentence("WHICH LAW: that with the least OFF (of several the least)");
        HoneyWinds x = with();
        x.film(0, 100500, 20);
        int[] turns = {17, 23, 18, 22, 19, 19, 21, 20};
        int[] due = {0, 0, 2, 2, 4, 4, 4, 7};
        for (int i = 0; i < turns.length; i++) {
            Due.law(x, 0, 1, "wind " + turns[i] + " h>0");
            due("WHICH of " + (i + 1), x.which(), due[i]);
        }
        HoneyWinds y = with("wind 9 h>0", TEN, TEN);
        due("no FILMS", y.which(), 0);
        y.film(0, 100500, 10);
        due("one FILM", y.which(), 1);
    }

    private static void whichNoLaws() {
        Due.sentence("WHICH LAW; -5: there are none.");
        HoneyWinds x = new HoneyWinds();
        due("nothing", x.which(), -5);
        x.stuff(1, 1);
        x.film(0, 100500, 5);
        due("a FILM", x.which(), -5);
        Due.law(x, 0, 1, "heap x");
        due("a FAULT", x.which(), -5);
        Due.law(x, 0, 1, "heap 5");
        due("a LAW", x.which(), 0);
    }

    private static void fitsByNOrLess() {
        Due.sentence("FITS of a LAW by n (0 .. 99): FILMS off by n or less, as bits");
        for (int off = 0; off <= 100; off++) {
            HoneyWinds x = with("wind 99 h>0;wind 9 h>0");
            x.film(0, 100500, 108 + off);
            x.film(0, 100500, 108 - off);
            for (int n = Math.max(0, off - 1); n <= Math.min(99, off + 1); n++) {
                due("off by " + off + ", by " + n, x.fits(0, n), n >= off ? 3 : 0);
            }
        }
    }

    private static void fitsBits() {
        Due.sentence("as bits of FILMS");
        HoneyWinds x = with(TEN);
        due("no FILMS", x.fits(0, 99), 0);
        for (int i = 0; i < 12; i++) {
            x.film(0, 100500, 10 + i);
        }
        for (int n = 0; n <= 12; n++) {
            due("by " + n, x.fits(0, n), (1 << Math.min(n, 11) + 1) - 1);
        }
        for (int i = 0; i < 12; i++) {
            HoneyWinds y = with(TEN);
            for (int j = 0; j < 12; j++) {
                y.film(0, 100500, j == i ? 10 : 20);
            }
            due("FILM " + i + " alone", y.fits(0, 9), 1 << i);
        }
    }

    private static void fitsRefused() {
        Due.sentence("fits: NONE; BAD.");
        HoneyWinds x = with(TEN);
        Due.within("fits by n", 0, 99, -2, n -> x.fits(0, n));
        Due.within("fits of LAW", 0, 0, -1, n -> x.fits(n, 5));
        due("no LAW and bad", x.fits(1, 100), -1);
    }

    // ---- read

    private static void read(HoneyWinds x, int flow, int turns, int form, int many, int first, int last) {
        String call = "read by " + flow + ", " + turns + ", " + form;
        due(call + ": how many", x.read(0, 0, flow, turns, form, 0), many);
        due(call + ": the first", x.read(0, 0, flow, turns, form, 1), first);
        due(call + ": the last", x.read(0, 0, flow, turns, form, 2), last);
    }

    private static void readHeightsPaces() {
        Due.sentence("HEIGHTS and PACES (HEIGHT 1 .. 60, PACE 0 .. 99, FLOW told) by which both come so");
        HoneyWinds all = with("wind 10 h>0;form 1 0;form 2 0;form 3 0;form 4 0");
        read(all, 5, 10, 4, 6000, 100, 6099);
        HoneyWinds ends = with(ENDS);
        read(ends, 5, 10, 0, 60, 100, 6000);
        read(ends, 5, 10, 1, 60 * 98, 101, 6098);
        read(ends, 5, 10, 4, 60, 199, 6099);
        HoneyWinds one = with("wind 10 h=1&p=0;wind 20 h=60&p=99;wind 30 h=60&p=0;wind 40 h=1&p=99");
        read(one, 5, 10, 0, 1, 100, 100);
        read(one, 5, 20, 4, 1, 6099, 6099);
        read(one, 5, 30, 0, 1, 6000, 6000);
        read(one, 5, 40, 4, 1, 199, 199);
        HoneyWinds flow = with("wind 10 f=20;wind 7 f=1;form 1 99");
        read(flow, 20, 10, 0, 60 * 99, 100, 6098);
        read(flow, 1, 7, 0, 60 * 70, 100, 6069);
    }

    private static void readPaceTests() {
        Due.sentence("PACE 0 .. 99 .. by which both come so");
        for (int n = 0; n <= 99; n++) {
            HoneyWinds is = with("wind 10 h>0;wind 10 p=" + n + ";form 1 99");
            read(is, 5, 20, 0, 60, 100 + n, 6000 + n);
            HoneyWinds above = with("wind 10 h>0;wind 10 p>" + n + ";form 1 99");
            read(above, 5, 20, 0, 60 * (99 - n), n == 99 ? -5 : 101 + n, n == 99 ? -5 : 6099);
            HoneyWinds below = with("wind 10 h>0;wind 10 p<" + n + ";form 1 99");
            read(below, 5, 20, 0, 60 * n, n == 0 ? -5 : 100, n == 0 ? -5 : 5999 + n);
        }
    }

    private static void readFirstLast() {
        Due.sentence("how many, the first (by HEIGHT, then PACE: 100 times HEIGHT, and PACE), the last");
        HoneyWinds x = with("wind 10 h>0;wind 5 h=7&p=90;wind 5 h=9&p=2;wind 5 h=8&p=50;form 1 99");
        read(x, 5, 15, 0, 3, 790, 902);
        HoneyWinds y = with("wind 10 h>0;wind 5 h=7&(p=3|p=5|p=4);form 1 99");
        read(y, 5, 15, 0, 3, 703, 705);
        HoneyWinds either = with(20, 1, 4, 2, TEN);
        read(either, 5, 10, 0, 60, 100, 2002);
        read(either, 5, 12, 4, 40 * 85, 2115, 6099);
    }

    private static void readNone() {
        Due.sentence("the last (-5: there is none)");
        HoneyWinds x = with(ENDS);
        read(x, 5, 10, 2, 0, -5, -5);
        read(x, 5, 11, 1, 0, -5, -5);
        read(x, 5, 9, 1, 0, -5, -5);
        read(x, 5, 0, 0, 0, -5, -5);
        read(x, 5, 999, 0, 0, -5, -5);
    }

    private static void readTurnsForms() {
        Due.sentence("READ by TURNS (0 .. 999) and a FORM (0 .. 4)");
        HoneyWinds x = with(TEN);
        Due.within("read by FORM", 0, 4, -2, n -> x.read(0, 0, 5, 10, n, 0));
        int[] turns = {0, 1, 998, 999};
        for (int n : turns) {
            due("TURNS " + n, x.read(0, 0, 5, n, 0, 0), 0);
        }
        int[] bad = {-1, 1000, Integer.MIN_VALUE, Integer.MAX_VALUE};
        for (int n : bad) {
            due("TURNS " + n, x.read(0, 0, 5, n, 0, 0), -2);
        }
        HoneyWinds most = with(1, 12, 2, 9, "wind 99 h>0;wind 99 h>0;wind 99 h>0;wind 99 h>0;wind 99 h>0;"
                + "wind 99 h>0;wind 99 h>0;wind 99 h>0;wind 99 h>0");
        read(most, 5, 999, 0, 6000, 100, 6099);
        read(most, 5, 998, 0, 0, -5, -5);
        HoneyWinds least = with("heap 1");
        read(least, 5, 1, 0, 60, 100, 6000);
        read(least, 5, 1, 3, 60, 101, 6001);
        read(least, 5, 1, 4, 60 * 98, 102, 6099);
    }

    private static void readRefused() {
        Due.sentence("what 0 how many, 1 the first, 2 the last (-5). NONE: law, stuff, what; BAD.");
        HoneyWinds x = with(TEN);
        Due.within("read, what", 0, 2, -1, n -> x.read(0, 0, 5, 10, 1, n));
        Due.within("read by FLOW", 1, 20, -2, n -> x.read(0, 0, n, 10, 1, 0));
        Due.within("read of LAW", 0, 0, -1, n -> x.read(n, 0, 5, 10, 1, 0));
        Due.within("read of STUFF", 0, 0, -1, n -> x.read(0, n, 5, 10, 1, 0));
        due("what 3 and bad", x.read(0, 0, 0, 1000, 5, 3), -1);
    }

    // ---- next

    private static void nextFurthest() {
        Due.sentence("NEXT ..: the HEIGHT .. at which the greatest and the least TURNS of all LAWS are furthest apart");
        for (int h = 1; h <= 60; h++) {
            due("one more at " + h, with(TEN, "wind 10 h>0;wind 1 h=" + h).next(0, 5), h);
            due("one less at " + h, with(TEN, "wind 10 h>0;ease 1 h=" + h).next(0, 5), h);
        }
        HoneyWinds x = with();
        for (int i = 0; i < 8; i++) {
            Due.law(x, 0, 1, "wind 50 h>0;wind " + (i + 1) + " h=" + (7 * i + 2));
            due("of " + (i + 1) + " LAWS", x.next(0, 5), i == 0 ? 1 : 7 * i + 2);
        }
        due("the middle ones do not count", with("wind 10 h>0", "wind 20 h>0;wind 9 h=7", "wind 30 h>0").next(0, 5), 1);
    }

    private static void nextLeastOfSeveral() {
        Due.sentence("(of several the least)");
        due("all as far", with(TEN, "wind 20 h>0").next(0, 5), 1);
        due("one LAW", with("wind 10 h>30").next(0, 5), 1);
        due("two HEIGHTS", with(TEN, "wind 10 h>0;wind 5 h=20;wind 5 h=40").next(0, 5), 20);
        due("more at the second", with(TEN, "wind 10 h>0;wind 5 h=20;wind 6 h=40").next(0, 5), 40);
        due("less and more as far", with(TEN, "wind 10 h>0;ease 5 h=59;wind 5 h=60").next(0, 5), 59);
    }

    private static void nextPace0() {
        Due.sentence("the HEIGHT (PACE 0)");
        due("another at PACE 0", with(TEN, "wind 10 h>0;wind 5 h=20&p=0;wind 50 h=40&p>0").next(0, 5), 20);
        HoneyWinds flow = with(TEN, "wind 10 h>0;wind 5 h=20&f=1;wind 5 h=40&f=20");
        due("FLOW 1", flow.next(0, 1), 20);
        due("FLOW 20", flow.next(0, 20), 40);
        due("no HEIGHT 0, none above 60", with(TEN, "wind 10 h>0;wind 90 h<1;wind 90 h>60").next(0, 5), 1);
        HoneyWinds either = with(20, 1, 4, 5, TEN);
        Due.law(either, 0, 1, TEN);
        due("EITHER, HIGH above 50", either.next(0, 5), 51);
    }

    private static void nextNone() {
        Due.sentence("NEXT; -5: there are no LAWS.");
        HoneyWinds x = new HoneyWinds();
        x.stuff(1, 1);
        due("no LAWS", x.next(0, 5), -5);
        Due.law(x, 0, 1, TEN);
        due("one LAW", x.next(0, 5), 1);
    }

    private static void nextRefused() {
        Due.sentence("next: NONE; BAD: flow.");
        HoneyWinds x = with(TEN);
        Due.within("next by FLOW", 1, 20, -2, n -> x.next(0, n));
        Due.within("next of STUFF", 0, 0, -1, n -> x.next(n, 5));
        due("no STUFF and bad", x.next(1, 0), -1);
        HoneyWinds none = new HoneyWinds();
        due("no STUFF, no LAW", none.next(0, 5), -1);
        none.stuff(1, 1);
        due("bad, no LAW", none.next(0, 21), -2);
        due("bad, no LAW", none.next(0, 0), -2);
    }

    // ---- two threads

    private static void twoNoFarther() {
        Due.sentence("they JOIN, if they are no farther apart than 100 by TURNS of the one (cut) and 100 by .. the other (cut)");
        int[] turns = {2, 3, 7, 10, 33, 50, 99};
        for (int one : turns) {
            for (int other : turns) {
                HoneyWinds x = new HoneyWinds();
                x.stuff(1, 1);
                x.stuff(2, 2);
                Due.law(x, 0, 1, "wind " + one + " s=1;wind " + other + " s=2");
                int reach = 100 / one + 100 / other;
                if (reach < 99) {
                    due(one + " and " + other + " at " + reach, x.two(0, 0, 1, reach, 505), -5);
                    due(one + " and " + other + " at " + (reach + 1), x.two(0, 0, 1, reach + 1, 505), 1);
                    due(other + " and " + one + " at " + reach, x.two(0, 1, 0, reach, 505), -5);
                    due(other + " and " + one + " at " + (reach + 1), x.two(0, 1, 0, reach + 1, 505), 1);
                }
            }
        }
    }

    private static void twoCut() {
        Due.sentence("100 by TURNS .. (cut)");
        HoneyWinds x = with("wind 51 h>0", "wind 34 h>0", "wind 99 h>0;wind 1 h>0", "wind 99 h>0;wind 2 h>0");
        int[] reach = {1, 2, 1, 0};
        for (int law = 0; law < reach.length; law++) {
            int twice = 2 * reach[law];
            due("LAW " + law + " at " + (twice + 1), x.two(law, 0, 0, twice + 1, 505), 1);
            due("LAW " + law + " at " + twice, twice == 0 ? -5 : x.two(law, 0, 0, twice, 505), -5);
        }
    }

    private static void twoHeights() {
        Due.sentence("the least HEIGHT (1 .. 60) of both at which, d .. apart, they don't JOIN");
        for (int h = 1; h <= 60; h++) {
            HoneyWinds x = with("wind 10 h>0;wind 40 h=" + h);
            due("at " + h + " alone", x.two(0, 0, 0, 20, 505), h);
            due("all JOIN", x.two(0, 0, 0, 4, 505), -5);
            HoneyWinds y = with("wind 10 h>0;wind 40 h>" + (h - 1));
            due("from " + h + " on", y.two(0, 0, 0, 20, 505), h);
        }
        due("PACE 0", with("wind 10 h>0;wind 90 p>0").two(0, 0, 0, 20, 505), -5);
    }

    private static void twoD() {
        Due.sentence("d (1 .. 99) apart");
        HoneyWinds x = with(TEN, "wind 2 h>0", "wind 99 h>0;wind 2 h>0");
        Due.within("two, d", 1, 99, -2, n -> x.two(0, 0, 0, n, 505));
        due("d 1", x.two(2, 0, 0, 1, 505), 1);
        due("d 99 of 100", x.two(1, 0, 0, 99, 505), -5);
        due("d 99 of 20", x.two(0, 0, 0, 99, 505), 1);
    }

    private static void twoNone() {
        Due.sentence("FLOWS being told (-5: none)");
        due("TURNS 1", with("heap 1").two(0, 0, 0, 99, 505), -5);
        due("TURNS 1 till 60", with("wind 50 h>60").two(0, 0, 0, 99, 505), -5);
        due("TURNS 50 at 60", with("wind 50 h=60").two(0, 0, 0, 99, 505), 60);
    }

    private static void twoFlows() {
        Due.sentence("(flows: 100 times the one's FLOW, and the other's)");
        HoneyWinds x = new HoneyWinds();
        x.stuff(1, 1);
        x.stuff(2, 2);
        Due.law(x, 0, 1, "wind 10 f=1;wind 20 f=20;wind 25 f=5&s=1;wind 50 f=5&s=2");
        for (int one = 0; one <= 22; one++) {
            for (int other = 0; other <= 22; other++) {
                boolean bad = one < 1 || one > 20 || other < 1 || other > 20;
                int answer = x.two(0, 0, 1, 50, 100 * one + other);
                due("flows " + one + " and " + other + ": refused", answer == -2 ? 1 : 0, bad ? 1 : 0);
                if (one * 23 + other == 11 * 23) {
                    x = new HoneyWinds();
                    x.stuff(1, 1);
                    x.stuff(2, 2);
                    Due.law(x, 0, 1, "wind 10 f=1;wind 20 f=20;wind 25 f=5&s=1;wind 50 f=5&s=2");
                }
            }
        }
        int[] bad = {-1, -101, -505, 0, 1, 20, 99, 100, 121, 199, 2100, 2021, 2099, 10101, Integer.MIN_VALUE, Integer.MAX_VALUE};
        for (int b : bad) {
            due("flows " + b, x.two(0, 0, 1, 5, b), -2);
        }
        due("10 and 5", x.two(0, 0, 1, 15, 120), -5);
        due("10 and 5, farther", x.two(0, 0, 1, 16, 120), 1);
        due("5 and 10", x.two(0, 0, 1, 15, 2001), -5);
        due("4 and 10", x.two(0, 0, 1, 14, 501), -5);
        due("4 and 10, farther", x.two(0, 0, 1, 15, 501), 1);
        due("10 and 2", x.two(0, 0, 1, 12, 105), -5);
        due("10 and 2, farther", x.two(0, 0, 1, 13, 105), 1);
    }

    private static void twoRefused() {
        Due.sentence("two: NONE: law, stuffs; BAD: d, flows.");
        HoneyWinds x = with(TEN);
        Due.within("two of LAW", 0, 0, -1, n -> x.two(n, 0, 0, 5, 505));
        Due.within("two of STUFF", 0, 0, -1, n -> x.two(0, n, 0, 5, 505));
        Due.within("two of the other STUFF", 0, 0, -1, n -> x.two(0, 0, n, 5, 505));
        due("no LAW and bad", x.two(1, 0, 0, 0, 0), -1);
        due("no STUFF and bad", x.two(0, 1, 0, 0, 0), -1);
        due("no other STUFF and bad", x.two(0, 0, 1, 100, 0), -1);
    }

    // ---- acts

    private static HoneyWinds kinds() {
        HoneyWinds x = new HoneyWinds();
        for (int kind = 0; kind <= 6; kind++) {
            Due.law(x, kind, kind + 3, TEN);
        }
        return x;
    }

    private static void actWraps() {
        Due.sentence("ACTS of a LAW with x (ints, wrapping)");
        HoneyWinds x = kinds();
        int max = Integer.MAX_VALUE;
        int min = Integer.MIN_VALUE;
        due("falls of SLOW: 3 times the greatest, and 1", x.act(1, 0, max), max - 2 + 1);
        due("falls of SLOW: 3 times the least, and 1", x.act(1, 0, min), min + 1);
        due("falls of HANGING: the greatest and 2", x.act(2, 0, max), min + 1);
        due("winds of LAYING: the least less 3", x.act(0, 1, min), max - 2);
        due("lies of LAYING: twice 2^30", x.act(0, 2, (1 << 30) + 3), min);
        due("lies of LAYING: twice -2^30 - 1", x.act(0, 2, -(1 << 30) - 1 + 3), max - 1);
        due("winds of HANGING: less the least", x.act(2, 1, min - 2 + 5), min);
        due("lies of EITHER: the least less 1", x.act(4, 2, min), -2 * (max + 4 - 7) + 6);
        due("falls of SKINNED", x.act(5, 0, max), min + 4 ^ 5);
        due("lies of FLUNG", x.act(3, 2, min), 2 * (min + 3 - 6) ^ 7);
        due("winds of SEWN: 6 and 9, less 9", x.act(6, 1, max), min + 5);
    }

    private static void actNumber() {
        Due.sentence("i its number");
        HoneyWinds x = new HoneyWinds();
        for (int i = 0; i < 8; i++) {
            Due.law(x, i == 7 ? 5 : 0, 1, TEN);
        }
        for (int i = 0; i < 7; i++) {
            due("falls of LAW " + i, x.act(i, 0, 100), 100 + i);
        }
        due("falls of LAW 7, SKINNED", x.act(7, 0, 100), 107 ^ 7);
    }

    private static void bodies(HoneyWinds x, int law, int act, int answer, int... bodies) {
        String call = "act(" + law + ", " + act + ", 5)";
        due(call, x.act(law, act, 5), answer);
        due(call + ": count(6)", x.count(6), bodies.length);
        for (int i = 0; i < bodies.length; i++) {
            due(call + ": trace(" + i + ")", x.trace(i), bodies[i]);
        }
        due(call + ": trace(" + bodies.length + ")", x.trace(bodies.length), -1);
        due(call + ": trace(-1)", x.trace(-1), -1);
    }

    private static void actBodies() {
        Due.sentence("falls(..) and so on: the body of its KIND, or, if that has none, of the next KIND above that has one");
        HoneyWinds x = kinds();
        int[] due = {5, 16, 7, 8, 9, 5 + 5 ^ 5, 11};
        int[][] falls = {{1}, {11, 1}, {1}, {1}, {1}, {51, 1}, {1}};
        int[][] winds = {{2, 1}, {2, 11, 1}, {21, 2, 1}, {2, 1}, {21, 2, 1}, {21, 2, 51, 1}, {61, 2, 1}};
        int[] wound = {2, 12, -2, 2, -2, -7, 11};
        int[][] lies = {{3, 2, 1}, {3, 2, 11, 1}, {3, 21, 2, 1}, {31, 3, 2, 1}, {41, 3, 21, 2, 1, 1}, {3, 21, 2, 51, 1},
            {31, 3, 61, 2, 1}};
        int[] laid = {4, 24, -4, 4 ^ 7, 4, -14, 22 ^ 7};
        for (int kind = 0; kind <= 6; kind++) {
            bodies(x, kind, 0, due[kind], falls[kind]);
            bodies(x, kind, 1, wound[kind], winds[kind]);
            bodies(x, kind, 2, laid[kind], lies[kind]);
        }
    }

    private static void actNone() {
        Due.sentence("0, and no TRACE then: no such LAW, act.");
        int[][] none = {{1, 0}, {-1, 0}, {1, 2}, {0, 3}, {0, -1}, {8, 3}, {Integer.MIN_VALUE, 0}, {Integer.MAX_VALUE, 0},
            {0, Integer.MIN_VALUE}, {0, Integer.MAX_VALUE}};
        for (int[] n : none) {
            HoneyWinds x = with(TEN);
            due("act(0, 2, 9)", x.act(0, 2, 9), 16);
            due("act(" + n[0] + ", " + n[1] + ", 9)", x.act(n[0], n[1], 9), 0);
            due("count(6)", x.count(6), 0);
            due("trace(0)", x.trace(0), -1);
            due("act(0, 1, 9)", x.act(0, 1, 9), 8);
            due("trace(1)", x.trace(1), 1);
        }
        HoneyWinds y = new HoneyWinds();
        due("act of none at all", y.act(0, 0, 9), 0);
        due("trace(0)", y.trace(0), -1);
    }

    private static void traceKept() {
        Due.sentence("THE TRACE: the numbers of the bodies that ran in the latest act(), as they began; the first 20 are kept");
        HoneyWinds x = kinds();
        x.act(4, 2, 0);
        int[] most = {41, 3, 21, 2, 1, 1};
        due("the most bodies", x.count(6), 6);
        for (int i = 0; i < most.length; i++) {
            due("trace(" + i + ")", x.trace(i), most[i]);
        }
        for (int i = 6; i <= 21; i++) {
            due("trace(" + i + ")", x.trace(i), -1);
        }
        x.act(0, 0, 0);
        due("the latest: count(6)", x.count(6), 1);
        due("the latest: trace(0)", x.trace(0), 1);
        due("the latest: trace(1)", x.trace(1), -1);
    }

    /** No act of the document's runs more than six bodies, so the class that keeps them is asked by itself. */
    private static void traceKeepsTwenty() throws ReflectiveOperationException {
        Due.sentence("the first 20 are kept; count: 6 bodies that ran in the latest act() (all, kept or not)");
        Class<?> kind = Class.forName("HoneyWinds$Trace");
        Constructor<?> made = kind.getDeclaredConstructor();
        Method add = kind.getDeclaredMethod("add", int.class);
        Method bodyAt = kind.getDeclaredMethod("bodyAt", int.class);
        Field ran = kind.getDeclaredField("ran");
        made.setAccessible(true);
        add.setAccessible(true);
        bodyAt.setAccessible(true);
        ran.setAccessible(true);
        Object trace = made.newInstance();
        for (int many = 1; many <= 25; many++) {
            add.invoke(trace, 100 + many);
            due(many + " bodies: ran", ran.getInt(trace), many);
            due(many + " bodies: the first", (Integer) bodyAt.invoke(trace, 0), 101);
            for (int i = many - 1; i <= many + 1; i++) {
                due(many + " bodies: body " + i, (Integer) bodyAt.invoke(trace, i), i < many && i < 20 ? 101 + i : -1);
            }
        }
        due("the last that is kept", (Integer) bodyAt.invoke(trace, 19), 120);
        due("the first that is not", (Integer) bodyAt.invoke(trace, 20), -1);
    }

    private static void traceNone() {
        Due.sentence("THE TRACE's i-th body. NONE.");
        HoneyWinds x = kinds();
        due("ahead of any act", x.trace(0), -1);
        x.act(0, 2, 1);
        Due.within("trace", 0, 2, -1, n -> x.trace(n));
        x.act(4, 2, 1);
        Due.within("trace", 0, 5, -1, n -> x.trace(n));
    }

    private static void asKinds() {
        Due.sentence("A LAW taken for a KIND k (0 .. 6), or one under that: its v. .. -6: it is of another KIND.");
        HoneyWinds x = kinds();
        String[] under = {"0", "01", "02", "03", "024", "025", "036"};
        for (int law = 0; law <= 6; law++) {
            for (int k = 0; k <= 6; k++) {
                due("as(" + law + ", " + k + ")", x.as(law, k), under[law].contains("" + k) ? law + 3 : -6);
            }
        }
    }

    private static void asRefused() {
        Due.sentence("as: NONE: law, k");
        HoneyWinds x = kinds();
        Due.within("as, k", 0, 6, -1, n -> x.as(4, n));
        Due.within("as of LAW", 0, 6, -1, n -> x.as(n, 0));
    }

    // ---- the image

    private static void imageOfAll() {
        Due.sentence("THE IMAGE: all that there is (but THE IMAGE and THE TRACE).");
        HoneyWinds x = with(TEN);
        x.film(0, 100500, 12);
        x.tick(100503);
        x.want(2);
        x.feed('h', 1);
        due("image", x.image(), 1);
        x.stuff(9, 9);
        x.feed('x', 1);
        x.law(0, 1);
        Due.law(x, 6, 9, "wind 20 h>0");
        x.film(1, 200500, 99);
        x.tick(-1);
        x.tick(602099);
        x.want(-1);
        x.want(4);
        x.act(1, 2, 1);
        due("undo", x.undo(), 1);
        int[] due = {1, 1, 1, 1, 1, 1, 5};
        for (int what = 0; what <= 6; what++) {
            due("count(" + what + ")", x.count(what), due[what]);
        }
        due("THE TRACE is the latest act's", x.trace(0), 31);
        due("of(1, 0)", x.of(1, 0), -1);
        due("told(1, 0)", x.told(1, 0), -1);
        due("OFF", x.off(0), 2);
        due("FITS", x.fits(0, 2), 1);
        due("FORM of TICK 0", x.run(0, 0, 100), 1);
        due("FOUND", x.found(0, 0, 100500, 0, 0), 6);
        Due.feed(x, "eap 77");
        due("THE TAPE", x.law(0, 1), 1);
        due("its heap", x.told(1, 2), 77);
    }

    private static void imageAgain() {
        Due.sentence("THE IMAGE is taken: how many LAWS there are.");
        HoneyWinds x = new HoneyWinds();
        due("image of none", x.image(), 0);
        for (int i = 1; i <= 8; i++) {
            Due.law(x, i % 7, 1, "heap " + i);
            due("image of " + i, x.image(), i);
            Due.law(x, 0, 1, "heap 50");
            due("undo to " + i, x.undo(), i);
            due("told", x.told(i - 1, 2), i);
            due("told behind the last", x.told(i, 2), -1);
        }
    }

    private static void undoNone() {
        Due.sentence("undo: STATE: there is none.");
        HoneyWinds x = new HoneyWinds();
        due("undo", x.undo(), -3);
        x.stuff(1, 2);
        Due.law(x, 0, 1, TEN);
        due("undo", x.undo(), -3);
        due("count(0)", x.count(0), 1);
        due("count(1)", x.count(1), 1);
        due("image", x.image(), 1);
        due("undo", x.undo(), 1);
    }

    private static void undoLessAndMore() {
        Due.sentence("All is as THE IMAGE: how many LAWS.");
        HoneyWinds x = new HoneyWinds();
        x.image();
        x.stuff(3, 4);
        Due.law(x, 0, 1, TEN);
        due("undo to nothing", x.undo(), 0);
        due("count(0)", x.count(0), 0);
        due("of(0, 0)", x.of(0, 0), -1);
        due("another STUFF", x.stuff(5, 6), 0);
        due("its STIFF", x.of(0, 0), 5);
        for (int i = 0; i < 8; i++) {
            Due.law(x, 0, 1, "heap " + i);
        }
        due("image of 8", x.image(), 8);
        due("undo to 8", x.undo(), 8);
        due("one LAW more", x.law(0, 1), -4);
        due("told(7, 2)", x.told(7, 2), 7);
        for (int i = 0; i < 12; i++) {
            x.tick(10100);
            x.want(i % 5);
            x.film(0, 10100, i);
        }
        due("undo of TICKS, FORMS, FILMS", x.undo(), 8);
        for (int what = 2; what <= 6; what++) {
            due("count(" + what + ")", x.count(what), 0);
        }
    }

    private static void countEmptyAndFull() {
        Due.sentence("0 STUFFS, 1 LAWS, 2 FILMS, 3 TICKS of the RUN, 4 FORMS of the ROW, 5 bytes of THE TAPE, 6 bodies");
        HoneyWinds x = new HoneyWinds();
        for (int what = 0; what <= 6; what++) {
            due("empty: count(" + what + ")", x.count(what), 0);
        }
        for (int i = 0; i < 21; i++) {
            x.stuff(1, 1);
            Due.law(x, 4, 1, "heap 1");
            x.film(0, 10100, 1);
            x.tick(10100);
            x.want(1);
        }
        x.undo();
        Due.feed(x, new byte[120 - x.count(5)]);
        x.act(0, 2, 1);
        int[] full = {5, 8, 12, 20, 8, 120, 6};
        for (int what = 0; what <= 6; what++) {
            due("full: count(" + what + ")", x.count(what), full[what]);
        }
    }

    private static void countNone() {
        Due.sentence("count: .. NONE.");
        HoneyWinds x = kinds();
        Due.within("count", 0, 6, -1, n -> x.count(n));
        due("count(10)", x.count(10), -1);
        due("count(100)", x.count(100), -1);
    }

    /** One of count(), one for each eight bytes, and one of law(). */
    private static int callsOfLaw(String text) {
        return 2 + (text.length() + 7) / 8;
    }

    private static void call512() {
        Due.sentence("An object is used for at most 512 calls after it has been made");
        String law = "wind 50 p>0&p<9;ease 9 p=3|p=40;wind 27 h>30;wind 3 p>50|p<60";
        HoneyWinds x = with(law, TEN);
        int calls = 1 + callsOfLaw(law) + callsOfLaw(TEN);
        for (int i = 0; i < 8; i++) {
            x.want(i % 5);
            calls++;
        }
        for (; calls <= 507; calls += 3) {
            due("read, call " + calls, x.read(1, 0, 5, 10, 4, 0), 60 * 88);
            due("found, call " + calls, x.found(1, 0, 100500, 99, -1), 24);
            due("next, call " + calls, x.next(0, 5), 31);
        }
        for (; calls <= 510; calls++) {
            due("image, call " + (calls + 1), x.image(), 2);
        }
        due("call 512", x.undo(), 2);
        HoneyWinds y = new HoneyWinds();
        y.image();
        for (int i = 0; i < 170; i++) {
            due("feed, call " + (2 + 3 * i), y.feed(0x68656170203930L, 7), 7);
            due("law, call " + (3 + 3 * i), y.law(i % 7, 9), 0);
            due("undo, call " + (4 + 3 * i), y.undo(), 0);
        }
        due("call 512", y.count(1), 0);
    }
}
