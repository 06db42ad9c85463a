import java.util.function.IntUnaryOperator;

/** Each sentence that names a boundary in part 1 of the document and in its promises 1 to 7, by a test of its own. */
public final class BoundsLawsTest {
    private static final String TEN = "wind 10 h>0";
    private static final String MOST = "wind 99 h>0;wind 99 h>0;wind 99 h>0;wind 99 h>0;wind 99 h>0;"
            + "wind 99 h>0;wind 99 h>0;wind 99 h>0;wind 99 h>0";

    private interface Truth {
        boolean of(boolean a, boolean b, boolean c);
    }

    public static void main(String[] args) {
        noStuffsNoLaws();
        stuffsFiveAtMost();
        stiff();
        weight();
        ofWhat();
        height();
        flow();
        pace();
        doingAsOneNumber();
        feedOneToEight();
        feedTheLowestBytes();
        tapeOf120();
        lawOf120();
        clausesTenAtMost();
        noClauseAtAll();
        oneBlank();
        words();
        numbers();
        formDigit();
        andAheadOfOr();
        signs();
        eachTest();
        openFiveAtMost();
        openTillItEnds();
        faultIsTheFirst();
        faultOfEachBeginning();
        tapeEmptyByAFault();
        lawsEightAtMost();
        kinds();
        v();
        tapeStays();
        formOfLaw();
        heapOfLaw();
        coolOfLaw();
        toldWhat();
        windsWhat();
        baseTogether();
        baseOneAtLeast();
        slow();
        hanging();
        flung();
        either();
        skinned();
        sewn();
        turns999AtMost();
        formCut();
        formGreatest();
        formNotEvenOne();
        Due.end();
    }

    private static void due(String call, long got, long want) {
        Due.due(call, got, want);
    }

    private static HoneyWinds with(int stiff, int weight, int kind, int v, String law) {
        HoneyWinds x = new HoneyWinds();
        x.stuff(stiff, weight);
        Due.law(x, kind, v, law);
        return x;
    }

    private static int turns(int stiff, int weight, int kind, int v, String law, int doing) {
        return with(stiff, weight, kind, v, law).winds(0, 0, doing, 1);
    }

    private static int doing(int height, int flow, int pace) {
        return 10000 * height + 100 * flow + pace;
    }

    // ---- stuffs

    private static void noStuffsNoLaws() {
        Due.sentence("No STUFFS, no LAWS.");
        HoneyWinds x = new HoneyWinds();
        due("count(0)", x.count(0), 0);
        due("count(1)", x.count(1), 0);
        due("of(0, 0)", x.of(0, 0), -1);
        due("told(0, 0)", x.told(0, 0), -1);
        due("which()", x.which(), -5);
        due("the first STUFF", x.stuff(1, 1), 0);
        due("the first LAW", Due.law(x, 0, 1, TEN), 0);
    }

    private static void stuffsFiveAtMost() {
        Due.sentence("STUFFS are numbered from 0 on, 5 at most");
        HoneyWinds x = new HoneyWinds();
        for (int i = 0; i < 5; i++) {
            due("of(" + i + ", 0) ahead of it", x.of(i, 0), -1);
            due("STUFF " + i, x.stuff(i + 1, i + 2), i);
            due("count(0)", x.count(0), i + 1);
            due("of(-1, 0)", x.of(-1, 0), -1);
        }
        for (int i = 0; i < 3; i++) {
            due("one STUFF more", x.stuff(20, 20), -4);
            due("count(0)", x.count(0), 5);
        }
        for (int i = 0; i < 5; i++) {
            due("of(" + i + ", 0)", x.of(i, 0), i + 1);
            due("of(" + i + ", 1)", x.of(i, 1), i + 2);
        }
        due("of(5, 0)", x.of(5, 0), -1);
    }

    private static void stiff() {
        Due.sentence("STIFF (1 .. 20)");
        Due.within("stuff(n, 7)", 1, 20, -2, n -> new HoneyWinds().stuff(n, 7));
        for (int n = 1; n <= 20; n++) {
            due("STIFF " + n, with(n, 7, 0, 1, TEN).of(0, 0), n);
        }
    }

    private static void weight() {
        Due.sentence("WEIGHT (1 .. 20)");
        Due.within("stuff(7, n)", 1, 20, -2, n -> new HoneyWinds().stuff(7, n));
        for (int n = 1; n <= 20; n++) {
            due("WEIGHT " + n, with(7, n, 0, 1, TEN).of(0, 1), n);
        }
    }

    private static void ofWhat() {
        Due.sentence("Of a STUFF what 0 STIFF, 1 WEIGHT. NONE.");
        HoneyWinds x = with(3, 4, 0, 1, TEN);
        Due.within("of(0, n)", 0, 1, -1, n -> x.of(0, n));
        Due.within("of(n, 0)", 0, 0, -1, n -> x.of(n, 0));
        due("of(0, 0)", x.of(0, 0), 3);
        due("of(0, 1)", x.of(0, 1), 4);
    }

    // ---- doings

    private static void height() {
        Due.sentence("a HEIGHT (1 .. 60)");
        HoneyWinds x = with(5, 5, 0, 1, TEN);
        Due.within("winds at HEIGHT", 1, 60, -2, n -> x.winds(0, 0, n * 10000 + 500, 0));
        due("HEIGHT 1, FLOW 1, PACE 0", x.winds(0, 0, 10100, 0), 10);
        due("HEIGHT 60, FLOW 20, PACE 99", x.winds(0, 0, 602099, 0), 10);
        due("HEIGHT 0, FLOW 20, PACE 99", x.winds(0, 0, 2099, 0), -2);
        due("HEIGHT 61, FLOW 1, PACE 0", x.winds(0, 0, 610100, 0), -2);
    }

    private static void flow() {
        Due.sentence("a FLOW (1 .. 20)");
        HoneyWinds x = with(5, 5, 0, 1, TEN);
        Due.within("winds by FLOW", 1, 20, -2, n -> x.winds(0, 0, 300000 + 100 * n, 0));
        due("FLOW 0, PACE 99", x.winds(0, 0, 300099, 0), -2);
        due("FLOW 21, PACE 0", x.winds(0, 0, 302100, 0), -2);
        due("FLOW 99, PACE 99", x.winds(0, 0, 309999, 0), -2);
    }

    private static void pace() {
        Due.sentence("a PACE of the floor (0 .. 99)");
        HoneyWinds x = with(5, 5, 0, 1, "wind 10 p=0;wind 20 p=99;wind 30 p=50");
        due("PACE 0", x.winds(0, 0, 300500, 0), 10);
        due("PACE 99", x.winds(0, 0, 300599, 0), 20);
        due("PACE 50", x.winds(0, 0, 300550, 0), 30);
        due("PACE 100 by FLOW 20", x.winds(0, 0, 302000 + 100, 0), -2);
        due("PACE -1 by FLOW 1", x.winds(0, 0, 300100 - 1, 0), -2);
    }

    private static void doingAsOneNumber() {
        Due.sentence("A DOING is told as one number: 10000 times HEIGHT, 100 times FLOW, and PACE.");
        HoneyWinds x = with(5, 5, 0, 1, "wind 1 h=60;wind 2 f=20;wind 4 p=99;wind 8 h=1;wind 16 f=1;wind 32 p=0");
        due("602099", x.winds(0, 0, 602099, 0), 7);
        due("10100", x.winds(0, 0, 10100, 0), 56);
        due("12000", x.winds(0, 0, 12000, 0), 42);
        due("600199", x.winds(0, 0, 600199, 0), 21);
        due("-602099", x.winds(0, 0, -602099, 0), -2);
        due("0", x.winds(0, 0, 0, 0), -2);
    }

    // ---- the tape

    private static void feedOneToEight() {
        Due.sentence("BAD: n not 1 .. 8");
        Due.within("feed(0, n)", 1, 8, -2, n -> new HoneyWinds().feed(0, n));
        for (int n = 1; n <= 8; n++) {
            due("feed(0, " + n + ")", new HoneyWinds().feed(0, n), n);
        }
        HoneyWinds x = new HoneyWinds();
        due("feed(0, 0)", x.feed(0, 0), -2);
        due("feed(0, 9)", x.feed(0, 9), -2);
        due("count(5)", x.count(5), 0);
    }

    private static void feedTheLowestBytes() {
        Due.sentence("The n lowest bytes of w, the highest first, come behind THE TAPE's: how many it has.");
        byte[] bytes = "form 1 2;heap 34;cool 56".getBytes();
        for (int n = 1; n <= 8; n++) {
            HoneyWinds x = new HoneyWinds();
            for (int at = 0; at < bytes.length; at += n) {
                int many = Math.min(n, bytes.length - at);
                long w = -1;
                for (int i = 0; i < many; i++) {
                    w = w << 8 | bytes[at + i];
                }
                due("feed of " + many, x.feed(w, many), at + many);
            }
            due("fed by " + n + ": law", x.law(0, 1), 0);
            due("fed by " + n + ": form 1", x.told(0, 11), 2);
            due("fed by " + n + ": heap", x.told(0, 2), 34);
            due("fed by " + n + ": cool", x.told(0, 3), 56);
        }
    }

    private static void tapeOf120() {
        Due.sentence("THE TAPE (bytes, 120 at most)");
        for (int n = 1; n <= 8; n++) {
            HoneyWinds x = new HoneyWinds();
            Due.feed(x, new byte[120 - n]);
            due("feed of " + n + " at " + (120 - n), x.feed(7, n), 120);
            due("feed of 1 at 120", x.feed(7, 1), -4);
            due("count(5)", x.count(5), 120);
            HoneyWinds y = new HoneyWinds();
            Due.feed(y, new byte[121 - n]);
            due("feed of " + n + " at " + (121 - n), y.feed(7, n), -4);
            due("count(5)", y.count(5), 121 - n);
            due("feed of what has room", n == 1 ? 120 : y.feed(7, n - 1), 120);
        }
    }

    private static void lawOf120() {
        Due.sentence("A LAW is read from THE TAPE (bytes, 120 at most)");
        String head = "wind 10 f=1|f=2|f=3|f=4|f=5|f=6|f=7|f=8|f=9|f<1|f<1|f<1|f<1|f<1|f<1|f<1|f<1|f<1|f<1|f<1|f<1|f<1|f<1|";
        String text = head + "h=99;cool 10;heap 17";
        due("its bytes", text.length(), 120);
        HoneyWinds x = new HoneyWinds();
        x.stuff(5, 5);
        due("120 bytes", Due.feed(x, text), 120);
        due("law", x.law(0, 1), 0);
        due("heap", x.told(0, 2), 17);
        due("BASE", x.winds(0, 0, doing(10, 9, 0), 0), 10);
        due("BASE", x.winds(0, 0, doing(10, 10, 0), 0), 1);
        due("119 bytes", Due.law(x, 0, 1, text.substring(0, 119)), 1);
        due("heap", x.told(1, 2), 1);
        due("118 bytes", Due.law(x, 0, 1, text.substring(0, 118)), -128);
        due("120 bytes that end too early", Due.law(x, 0, 1, text.substring(0, 119) + ";"), -130);
        due("a fault at the last byte", Due.law(x, 0, 1, text.substring(0, 119) + "x"), -129);
    }

    // ---- laws as texts

    private static void fault(String text, int place) {
        HoneyWinds x = new HoneyWinds();
        due("law of '" + text + "'", Due.law(x, 0, 1, text), -10 - place);
        due("law of '" + text + "': bytes that stay", x.count(5), 0);
        due("law of '" + text + "': LAWS", x.count(1), 0);
    }

    private static void fine(String text) {
        due("law of '" + text + "'", Due.law(new HoneyWinds(), 0, 1, text), 0);
    }

    private static void clausesTenAtMost() {
        Due.sentence("CLAUSES, 10 at most, with ; between");
        String[] clauses = {"heap 3", "cool 4", "form 1 5", "ease 6 h>1", "wind 7 h>0"};
        for (String c : clauses) {
            StringBuilder s = new StringBuilder(c);
            fine(c);
            for (int many = 2; many <= 10; many++) {
                fault(s + c, s.length());
                fault(s + ";", s.length() + 1);
                fault(s + ";;" + c, s.length() + 1);
                s.append(";").append(c);
                if (s.length() <= 110) {
                    fine(s.toString());
                }
            }
            if (s.length() + 7 <= 120) {
                fault(s + ";", s.length());
                fault(s + ";heap 1", s.length());
            }
        }
        HoneyWinds x = with(5, 5, 0, 1, "wind 9 h>0;wind 8 h>0;wind 7 h>0;wind 6 h>0;wind 5 h>0;wind 4 h>0;wind 3 h>0;"
                + "wind 2 h>0;wind 1 h>0;wind 20 h>0");
        due("BASE by ten", x.winds(0, 0, 100500, 0), 65);
    }

    private static void noClauseAtAll() {
        Due.sentence("FAULT: .. (the size, if it ends too early)");
        fault("", 0);
        fault(";", 0);
        fault(";heap 1", 0);
        fault("heap 1;", 7);
    }

    private static void oneBlank() {
        Due.sentence("(one blank ahead of each part behind the word ..)");
        String[] texts = {"wind 1 h>1", "ease 1 h>12", "form 1 2", "form 4 34", "heap 5", "cool 67"};
        for (String t : texts) {
            fine(t);
            for (int i = 0; i <= t.length(); i++) {
                boolean blank = i < t.length() && t.charAt(i) == ' ';
                String more = t.substring(0, i) + " " + t.substring(i);
                fault(more, blank ? i + 1 : i);
                if (blank) {
                    fault(t.substring(0, i) + "\t" + t.substring(i + 1), i);
                }
            }
        }
        fault("wind1 h>1", 4);
        fault("wind 1h>1", 6);
        fault("ease 12h>1", 7);
        fault("form1 2", 4);
        fault("form 12", 6);
        fault("heap5", 4);
        fault("cool67", 4);
        fault("heap 1; heap 1", 7);
        fault("heap 1 ;heap 1", 6);
    }

    private static void words() {
        Due.sentence("wind n E; ease n E; form k n; heap n; cool n");
        String[] texts = {"wind 1 h>1", "ease 1 h>1", "form 1 1", "heap 1", "cool 1"};
        for (String t : texts) {
            for (int i = 0; i < 4; i++) {
                for (int c = 0; c < 256; c++) {
                    boolean other = i == 0 ? "wefhc".indexOf(c) < 0 : c != t.charAt(i);
                    if (other) {
                        fault(t.substring(0, i) + (char) c + t.substring(i + 1), i);
                    }
                }
            }
        }
        fault("cind 1 h>1", 1);
        fault("corm 1 1", 2);
        fault("fool 1", 2);
        fault("weap 1", 1);
        fault("wind 1", 6);
        fault("wind 1 ", 7);
        fault("ease h>1", 5);
        fault("form 1", 6);
        fault("heap", 4);
        fault("cool ", 5);
        fault("heap 1 h>1", 6);
        fault("form 1 1 1", 8);
        fault("cool 1 1", 6);
    }

    private static void numbers() {
        Due.sentence("n 1 or 2 digits, no 0 ahead of another");
        String[][] around = {{"wind ", " h>1"}, {"ease ", " h>1"}, {"form 2 ", ""}, {"heap ", ""}, {"cool ", ""},
            {"wind 1 h>", ""}, {"wind 1 !(f<", ")"}};
        for (String[] a : around) {
            int at = a[0].length();
            for (int n = 0; n <= 99; n++) {
                fine(a[0] + n + a[1]);
            }
            for (int n = 0; n <= 9; n++) {
                fault(a[0] + "0" + n + a[1], at + 1);
                fault(a[0] + "10" + n + a[1], at + 2);
                fault(a[0] + "99" + n + a[1], at + 2);
            }
            fault(a[0] + a[1], at);
            fault(a[0] + "-1" + a[1], at);
            fault(a[0] + "/" + a[1], at);
            fault(a[0] + ":" + a[1], at);
            fault(a[0] + "1/" + a[1], at + 1);
            fault(a[0] + "1:" + a[1], at + 1);
            fault(a[0] + "x" + a[1], at);
        }
        for (int n = 0; n <= 99; n++) {
            HoneyWinds x = with(5, 5, 0, 1, "wind " + n + " h>0;wind 1 h>0;form 3 " + n + ";heap " + n + ";cool " + n);
            due("wind " + n, x.winds(0, 0, 100500, 0), n + 1);
            due("form 3 " + n, x.told(0, 13), n);
            due("heap " + n, x.told(0, 2), n);
            due("cool " + n, x.told(0, 3), n);
        }
    }

    private static void formDigit() {
        Due.sentence("k a digit 1 .. 4");
        for (int c = 0; c < 256; c++) {
            String text = "form " + (char) c + " 7";
            if (c >= '1' && c <= '4') {
                fine(text);
            } else {
                fault(text, 5);
            }
        }
        fault("form 11 7", 6);
        fault("form 10 7", 6);
        fault("form 01 7", 5);
    }

    private static void andAheadOfOr() {
        Due.sentence("E: T, or T|E. T: F, or F&T. F: !F, (E), or a TEST");
        truth("A|B&C", (a, b, c) -> a || b && c);
        truth("A&B|C", (a, b, c) -> a && b || c);
        truth("(A|B)&C", (a, b, c) -> (a || b) && c);
        truth("A&(B|C)", (a, b, c) -> a && (b || c));
        truth("A|B|C", (a, b, c) -> a || b || c);
        truth("A&B&C", (a, b, c) -> a && b && c);
        truth("!A&B", (a, b, c) -> !a && b);
        truth("!A|B", (a, b, c) -> !a || b);
        truth("!(A&B)|C", (a, b, c) -> !(a && b) || c);
        truth("!(A|B)&C", (a, b, c) -> !(a || b) && c);
        truth("!!A&!B|!!!C", (a, b, c) -> a && !b || !c);
        truth("A&B|A&C|B&C", (a, b, c) -> a && b || a && c || b && c);
        truth("(A|B)&(A|C)&(B|C)", (a, b, c) -> (a || b) && (a || c) && (b || c));
        truth("((((A|B))))&!((C))", (a, b, c) -> (a || b) && !c);
        truth("!(!(A|B)|C)", (a, b, c) -> (a || b) && !c);
    }

    private static void truth(String text, Truth due) {
        String law = "wind 9 " + text.replace("A", "h=2").replace("B", "f=2").replace("C", "p=2");
        HoneyWinds x = with(5, 5, 0, 1, law);
        for (int i = 0; i < 8; i++) {
            int doing = doing(1 + (i & 1), 1 + (i >> 1 & 1), 1 + (i >> 2 & 1));
            boolean holds = due.of((i & 1) != 0, (i & 2) != 0, (i & 4) != 0);
            due(text + " at " + doing, x.winds(0, 0, doing, 0), holds ? 9 : 1);
        }
    }

    private static void test(String test, int from, int to, IntUnaryOperator base) {
        char sign = test.charAt(1);
        int n = Integer.parseInt(test.substring(2));
        for (int i = from; i <= to; i++) {
            boolean holds = sign == '<' ? i < n : sign == '=' ? i == n : i > n;
            due(test + " by " + i, base.applyAsInt(i), holds ? 9 : 1);
        }
    }

    private static void signs() {
        Due.sentence("one of < = >, a number likewise");
        for (char sign : new char[] {'<', '=', '>'}) {
            for (int n : new int[] {0, 1, 2, 30, 59, 60, 61, 99}) {
                String t = "h" + sign + n;
                HoneyWinds x = with(5, 5, 0, 1, "wind 9 " + t);
                test(t, 1, 60, i -> x.winds(0, 0, doing(i, 5, 0), 0));
            }
        }
        for (int c = 0; c < 256; c++) {
            if (c != '<' && c != '=' && c != '>') {
                fault("wind 9 h" + (char) c + "5", 8);
            }
        }
        fault("wind 9 h<=5", 9);
        fault("wind 9 h5", 8);
    }

    private static void eachTest() {
        Due.sentence("a TEST: h or f or p or s or g .. h HEIGHT, f FLOW, p PACE, s STIFF (as the STUFF is), g WEIGHT");
        for (char sign : new char[] {'<', '=', '>'}) {
            for (int n : new int[] {0, 1, 10, 19, 20, 21, 98, 99}) {
                String f = "f" + sign + n;
                HoneyWinds x = with(5, 5, 0, 1, "wind 9 " + f);
                test(f, 1, 20, i -> x.winds(0, 0, doing(30, i, 50), 0));
                String p = "p" + sign + n;
                HoneyWinds y = with(5, 5, 0, 1, "wind 9 " + p);
                test(p, 0, 99, i -> y.winds(0, 0, doing(30, 5, i), 0));
                String s = "s" + sign + n;
                test(s, 1, 20, i -> with(i, 5, 0, 1, "wind 9 " + s).winds(0, 0, doing(30, 5, 50), 0));
                String g = "g" + sign + n;
                test(g, 1, 20, i -> with(5, i, 0, 1, "wind 9 " + g).winds(0, 0, doing(30, 5, 50), 0));
            }
        }
        for (int c = 0; c < 256; c++) {
            if ("hfpsg!(".indexOf(c) < 0) {
                fault("wind 9 " + (char) c + ">5", 7);
            }
        }
    }

    /** A test with these opened around it, and closed behind it. */
    private static String opened(String open) {
        return open + "h>1" + ")".repeat((int) open.chars().filter(c -> c == '(').count());
    }

    private static void openFiveAtMost() {
        Due.sentence("At most 5 of ! and ( are open");
        for (int bits = 0; bits < 64; bits++) {
            StringBuilder s = new StringBuilder();
            for (int i = 0; i < 6; i++) {
                s.append((bits >> i & 1) == 0 ? '!' : '(');
                String text = "wind 1 " + opened(s.toString());
                if (i < 5) {
                    fine(text);
                } else {
                    fault(text, 7 + 5);
                }
            }
        }
        fault("wind 1 h>1&h>1|!!!!!!h>1", 20);
        fault("wind 1 h>1;ease 1 ((((((h>1))))))", 23);
    }

    private static void openTillItEnds() {
        Due.sentence("(a ( till its ) , a ! till its F ends)");
        fine("wind 1 !!!!!h>1&!!!!!h>1|!!!!!h>1");
        fine("wind 1 (((((h>1)))))|(((((h>1)))))&(((((h>1)))))");
        fine("wind 1 !(!(!h>1))&!(!(!h>1));ease 1 !(!(!h>1))");
        fine("wind 1 (!!!!h>1&!!!!h>1|((((h>1)))))");
        fine("wind 1 !(h>1&!!!h>1|!!!h>1)|!!!!!h>1");
        fault("wind 1 (!!!!h>1&!!!!!h>1)", 20);
        fault("wind 1 !(h>1&!!!!h>1)", 16);
        fault("wind 1 ((!!!h>1|(((h>1)))&!!!!h>1))", 29);
        fault("wind 1 (((((h>1)))))&((((((h>1))))))", 26);
        fault("wind 1 !!!!!h>1&!!!!!!h>1", 21);
        fault("wind 1 (((((h>1|h>1&!h>1)))))", 20);
    }

    private static void faultIsTheFirst() {
        Due.sentence("FAULT: the place of the first byte with which no LAW can go on");
        fault("x", 0);
        fault("wind 1 h>1x;x", 10);
        fault("wind 1 h>123;form 9", 11);
        fault("wind 1 h>1)", 10);
        fault("wind 1 (h>1;", 11);
        fault("wind 1 (h>1]", 11);
        fault("wind 1 h>1(h>1)", 10);
        fault("wind 1 h>1!h>1", 10);
        fault("wind 1 ()", 8);
        fault("wind 1 !)", 8);
        fault("wind 1 &h>1", 7);
        fault("wind 1 |h>1", 7);
        fault("wind 1 h>1&&h>1", 11);
        fault("wind 1 h>1|&h>1", 11);
        fault("heap 1;heap 2;heap 3;heap 4;heap", 32);
        fault("heap 1,cool 1", 6);
        fault("\u0000heap 1", 0);
        fault("\u00f7eap 1", 0);
        fault("wind 1 h>1\u00fch>1", 10);
        HoneyWinds x = new HoneyWinds();
        byte[] bytes = new byte[120];
        due("120 bytes of 0", Due.feed(x, bytes), 120);
        due("their fault", x.law(0, 1), -10);
    }

    private static void faultOfEachBeginning() {
        Due.sentence("(the size, if it ends too early)");
        String text = "wind 12 !(h<3|f=45)&p>6|(s=9);ease 7 s=8;form 4 90;heap 10;cool 11;form 1 0";
        String ends = "                  ^   ^     ^          ^        ^^      ^^      ^^        ^";
        text = text + " ";
        ends = ends + " ";
        for (int size = 0; size < text.length(); size++) {
            String begun = text.substring(0, size);
            if (size > 0 && size <= ends.length() && ends.charAt(size - 1) == '^') {
                fine(begun);
            } else {
                fault(begun, size);
            }
        }
        fault(text, text.length() - 1);
    }

    private static void tapeEmptyByAFault() {
        Due.sentence("THE TAPE, which is empty then (by a FAULT, too), is a LAW: its number; -10 less the FAULT.");
        HoneyWinds x = new HoneyWinds();
        due("a LAW", Due.law(x, 0, 1, "heap 5"), 0);
        due("count(5)", x.count(5), 0);
        due("a fault at 7", Due.law(x, 0, 1, "heap 5;x"), -17);
        due("count(5)", x.count(5), 0);
        due("a fault at 0 of nothing", x.law(0, 1), -10);
        due("a LAW behind it", Due.law(x, 0, 1, "cool 5"), 1);
        due("its heap", x.told(1, 2), 20);
        due("count(1)", x.count(1), 2);
    }

    private static void lawsEightAtMost() {
        Due.sentence("LAWS are numbered from 0 on, 8 at most");
        HoneyWinds x = new HoneyWinds();
        for (int i = 0; i < 8; i++) {
            due("told(" + i + ", 2) ahead of it", x.told(i, 2), -1);
            due("LAW " + i, Due.law(x, i % 7, 9 - i, "heap " + i), i);
            due("count(1)", x.count(1), i + 1);
        }
        for (int i = 0; i < 3; i++) {
            Due.feed(x, "cool 1");
            due("one LAW more", x.law(0, 1), -4);
            due("THE TAPE stays", x.count(5), 6 * (i + 1));
            due("count(1)", x.count(1), 8);
        }
        for (int i = 0; i < 8; i++) {
            due("told(" + i + ", 2)", x.told(i, 2), i);
        }
        due("told(8, 2)", x.told(8, 2), -1);
        due("told(-1, 2)", x.told(-1, 2), -1);
    }

    private static void kinds() {
        Due.sentence("each of a KIND: 0 LAYING; 1 SLOW, 2 HANGING, 3 FLUNG under LAYING; 4 EITHER, 5 SKINNED ..; 6 SEWN");
        Due.within("law(n, 5)", 0, 6, -1, n -> {
            HoneyWinds x = new HoneyWinds();
            Due.feed(x, TEN);
            return x.law(n, 5);
        });
        for (int kind = 0; kind <= 6; kind++) {
            due("KIND " + kind, with(1, 1, kind, 5, TEN).told(0, 0), kind);
        }
    }

    private static void v() {
        Due.sentence("and a number v (1 .. 9)");
        Due.within("law(3, n)", 1, 9, -2, n -> {
            HoneyWinds x = new HoneyWinds();
            Due.feed(x, TEN);
            return x.law(3, n);
        });
        for (int v = 1; v <= 9; v++) {
            due("v " + v, with(1, 1, 3, v, TEN).told(0, 1), v);
        }
    }

    private static void tapeStays() {
        Due.sentence("NONE: kind; BAD: v; FULL (THE TAPE stays with all three)");
        int[][] refused = {{-1, 5, -1}, {7, 5, -1}, {7, 0, -1}, {-1, 10, -1}, {0, 0, -2}, {6, 10, -2}, {3, -1, -2}};
        for (int[] r : refused) {
            HoneyWinds x = new HoneyWinds();
            Due.feed(x, "heap 4");
            due("law(" + r[0] + ", " + r[1] + ")", x.law(r[0], r[1]), r[2]);
            due("count(5)", x.count(5), 6);
            due("count(1)", x.count(1), 0);
            due("feed behind it", x.feed('3', 1), 7);
            due("law", x.law(6, 9), 0);
            due("heap", x.told(0, 2), 43);
        }
        HoneyWinds y = new HoneyWinds();
        Due.feed(y, "no law");
        due("law(7, 5) of what is none", y.law(7, 5), -1);
        due("law(0, 0) of what is none", y.law(0, 0), -2);
        due("count(5)", y.count(5), 6);
        due("its fault", y.law(0, 1), -10);
    }

    // ---- what is told of a law

    private static void formOfLaw() {
        Due.sentence("Of form k the last n with that k holds (without: 3, 6, 9, 12 for k 1 .. 4)");
        HoneyWinds x = new HoneyWinds();
        Due.law(x, 0, 1, TEN);
        for (int k = 1; k <= 4; k++) {
            due("form " + k + " without", x.told(0, 10 + k), 3 * k);
            Due.law(x, 0, 1, "form " + k + " 50;form " + k + " 99;form " + (5 - k) + " 70;form " + k + " " + k);
            for (int j = 1; j <= 4; j++) {
                int n = j == k ? k : j == 5 - k ? 70 : 3 * j;
                due("form " + j + " of LAW " + k, x.told(k, 10 + j), n);
            }
        }
        Due.law(x, 0, 1, "form 1 0;form 4 0");
        due("form 1 0", x.told(5, 11), 0);
        due("form 4 0", x.told(5, 14), 0);
    }

    private static void heapOfLaw() {
        Due.sentence("of heap (20 without) .. the last n");
        due("without", with(1, 1, 0, 1, "cool 5;form 1 6").told(0, 2), 20);
        due("one", with(1, 1, 0, 1, "heap 0").told(0, 2), 0);
        due("two", with(1, 1, 0, 1, "heap 99;heap 98").told(0, 2), 98);
        due("two, apart", with(1, 1, 0, 1, "heap 3;cool 4;heap 99;cool 5").told(0, 2), 99);
    }

    private static void coolOfLaw() {
        Due.sentence("cool (0 without) the last n");
        due("without", with(1, 1, 0, 1, "heap 5;form 1 6").told(0, 3), 0);
        due("one", with(1, 1, 0, 1, "cool 0").told(0, 3), 0);
        due("two", with(1, 1, 0, 1, "cool 99;cool 98").told(0, 3), 98);
        due("two, apart", with(1, 1, 0, 1, "cool 3;heap 4;cool 99;heap 5").told(0, 3), 99);
        HoneyWinds x = with(1, 1, 0, 1, "cool 5;heap 6;form 1 7");
        Due.law(x, 0, 1, TEN);
        due("without, behind a LAW with one", x.told(1, 3), 0);
        due("heap without, behind a LAW with one", x.told(1, 2), 20);
        due("form 1 without, behind a LAW with one", x.told(1, 11), 3);
    }

    private static void toldWhat() {
        Due.sentence("Of a LAW what 0 KIND, 1 v, 2 heap, 3 cool, 10 and k the n of form k (1 .. 4). NONE.");
        HoneyWinds x = with(1, 1, 4, 7, "heap 41;cool 42;form 1 43;form 2 44;form 3 45;form 4 46");
        int[] due = {4, 7, 41, 42, -1, -1, -1, -1, -1, -1, -1, 43, 44, 45, 46, -1, -1};
        for (int what = 0; what < due.length; what++) {
            due("told(0, " + what + ")", x.told(0, what), due[what]);
        }
        int[] none = {-1, -10, -11, 111, Integer.MIN_VALUE, Integer.MAX_VALUE};
        for (int what : none) {
            due("told(0, " + what + ")", x.told(0, what), -1);
        }
        Due.within("told(n, 0)", 0, 0, -1, n -> x.told(n, 0));
    }

    // ---- base, turns, form

    private static void windsWhat() {
        Due.sentence("Of a DOING what 0 BASE, 1 TURNS, 2 FORM. NONE; BAD: doing.");
        HoneyWinds x = with(1, 5, 2, 3, TEN);
        Due.within("winds(0, 0, 100504, n)", 0, 2, -1, n -> x.winds(0, 0, 100504, n));
        due("BASE", x.winds(0, 0, 100508, 0), 10);
        due("TURNS", x.winds(0, 0, 100508, 1), 25);
        due("FORM", x.winds(0, 0, 100508, 2), 1);
        Due.within("winds(n, 0, ..)", 0, 0, -1, n -> x.winds(n, 0, 100500, 0));
        Due.within("winds(0, n, ..)", 0, 0, -1, n -> x.winds(0, n, 100500, 0));
    }

    private static void baseTogether() {
        Due.sentence("BASE ..: the n of all wind whose E holds, less those of all ease whose E holds, together");
        HoneyWinds x = with(5, 5, 0, 1, "ease 50 h>0;wind 60 h>9;ease 7 h>10;wind 99 h>11;ease 99 h>12;wind 3 h>13");
        int[][] due = {{9, 1}, {10, 10}, {11, 3}, {12, 102}, {13, 3}, {14, 6}};
        for (int[] d : due) {
            due("BASE at HEIGHT " + d[0], x.winds(0, 0, doing(d[0], 5, 0), 0), d[1]);
        }
    }

    private static void baseOneAtLeast() {
        Due.sentence("(1 at least)");
        int[][] due = {{7, 3}, {8, 2}, {9, 1}, {10, 1}, {11, 1}, {99, 1}};
        for (int[] d : due) {
            HoneyWinds x = with(5, 5, 0, 1, "wind 10 h>0;ease " + d[0] + " h>0");
            due("BASE of 10 less " + d[0], x.winds(0, 0, 100500, 0), d[1]);
            due("TURNS of 10 less " + d[0], x.winds(0, 0, 100500, 1), d[1]);
        }
        due("BASE of all eases", with(5, 5, 0, 1, MOST.replace("wind", "ease")).winds(0, 0, 100500, 0), 1);
        due("BASE of none", with(5, 5, 0, 1, "heap 1").winds(0, 0, 100500, 0), 1);
        due("HANGING has it in BASE, not in TURNS", turns(1, 3, 2, 1, "ease 9 h>0", 100500), 1 + 3);
    }

    private static void slow() {
        Due.sentence("SLOW: BASE plus (v times FLOW over HEIGHT, cut)");
        for (int v = 1; v <= 9; v += 4) {
            for (int f = 1; f <= 20; f++) {
                HoneyWinds x = with(5, 5, 1, v, TEN);
                for (int h = 1; h <= 60; h++) {
                    due("v " + v + " " + doing(h, f, 0), x.winds(0, 0, doing(h, f, 0), 1), 10 + v * f / h);
                }
            }
        }
        due("20 over 21", turns(5, 5, 1, 1, TEN, doing(21, 20, 0)), 10);
        due("20 over 20", turns(5, 5, 1, 1, TEN, doing(20, 20, 0)), 11);
    }

    private static void hanging() {
        Due.sentence("HANGING: BASE plus (WEIGHT times v over STIFF, cut)");
        for (int v = 1; v <= 9; v++) {
            for (int s = 1; s <= 20; s++) {
                for (int w = 1; w <= 20; w++) {
                    due("v " + v + " STIFF " + s + " WEIGHT " + w, turns(s, w, 2, v, TEN, 100500), 10 + w * v / s);
                }
            }
        }
        due("19 over 20", turns(20, 19, 2, 1, TEN, 100500), 10);
        due("20 over 20", turns(20, 20, 2, 1, TEN, 100500), 11);
    }

    private static void flung() {
        Due.sentence("FLUNG: BASE plus (HEIGHT times FLOW over (10 times STIFF), cut)");
        for (int s = 1; s <= 20; s++) {
            for (int f = 1; f <= 20; f++) {
                HoneyWinds x = with(s, 5, 3, 1, TEN);
                for (int h = 1; h <= 60; h++) {
                    due("STIFF " + s + " " + doing(h, f, 0), x.winds(0, 0, doing(h, f, 0), 1), 10 + h * f / (10 * s));
                }
            }
        }
        due("9 over 10", turns(1, 5, 3, 1, TEN, doing(9, 1, 0)), 10);
        due("10 over 10", turns(1, 5, 3, 1, TEN, doing(10, 1, 0)), 11);
    }

    private static void either() {
        Due.sentence("EITHER: as HANGING, and v more, if it is HIGH: that is so, if HEIGHT is above 10 times v");
        for (int v = 1; v <= 9; v++) {
            HoneyWinds x = with(3, 7, 4, v, TEN);
            for (int h = 1; h <= 60; h++) {
                int due = 10 + 7 * v / 3 + (h > 10 * v ? v : 0);
                due("v " + v + " at " + h, x.winds(0, 0, doing(h, 5, 0), 1), due);
            }
        }
        due("at 10 times v", turns(20, 1, 4, 5, TEN, doing(50, 5, 0)), 10);
        due("above it", turns(20, 1, 4, 5, TEN, doing(51, 5, 0)), 15);
    }

    private static void skinned() {
        Due.sentence("SKINNED: as HANGING (but for STIFF in a RUN, see 2)");
        for (int s = 1; s <= 20; s++) {
            for (int w = 1; w <= 20; w++) {
                due("STIFF " + s + " WEIGHT " + w, turns(s, w, 5, 9, TEN + ";cool 99", 100500), 10 + w * 9 / s);
            }
        }
    }

    private static void sewn() {
        Due.sentence("SEWN: as FLUNG, but no more than BASE and 9 times v");
        for (int v = 1; v <= 9; v++) {
            for (int f = 1; f <= 20; f++) {
                HoneyWinds x = with(1, 5, 6, v, TEN);
                for (int h = 1; h <= 60; h++) {
                    int due = 10 + Math.min(h * f / 10, 9 * v);
                    due("v " + v + " " + doing(h, f, 0), x.winds(0, 0, doing(h, f, 0), 1), due);
                }
            }
        }
        due("8 more", turns(1, 5, 6, 1, TEN, doing(8, 10, 0)), 18);
        due("9 more", turns(1, 5, 6, 1, TEN, doing(9, 10, 0)), 19);
        due("10 more", turns(1, 5, 6, 1, TEN, doing(10, 10, 0)), 19);
    }

    private static void turns999AtMost() {
        Due.sentence("999 at most.");
        int doing = doing(10, 10, 0);
        for (int n = 90; n <= 99; n++) {
            String law = MOST + ";wind " + n + " h>0";
            int base = 9 * 99 + n;
            due("LAYING of " + base, turns(1, 1, 0, 1, law, doing), base);
            for (int more = 1; more <= 20; more++) {
                int due = Math.min(999, base + more);
                due("SLOW of " + base + " and " + more, turns(1, 1, 1, 1, law, doing(1, more, 0)), due);
                due("HANGING of " + base + " and " + more, turns(1, more, 2, 1, law, doing), due);
                due("FLUNG of " + base + " and " + more, turns(1, 1, 3, 1, law, doing(10, more, 0)), due);
                due("EITHER of " + base + " and " + more, turns(1, more, 4, 1, law, doing), due);
                due("EITHER, HIGH, of " + base + " and " + more, turns(1, more, 4, 1, law, doing(11, 1, 0)),
                        Math.min(999, base + more + 1));
                due("SKINNED of " + base + " and " + more, turns(1, more, 5, 1, law, doing), due);
                due("SEWN of " + base + " and " + more, turns(1, 1, 6, 9, law, doing(10, more, 0)), due);
            }
        }
    }

    private static void formCut() {
        Due.sentence("10 times PACE by TURNS (cut) is no less than the n ..");
        for (int turns : new int[] {1, 2, 7, 10, 33, 99}) {
            for (int n : new int[] {0, 1, 2, 9, 10, 50, 99}) {
                HoneyWinds x = with(5, 5, 0, 1, "wind " + turns + " h>0;form 1 " + n + ";form 2 99;form 3 99;form 4 99");
                for (int p = 0; p <= 99; p++) {
                    int by = 10 * p / turns;
                    int due = by >= 99 ? 4 : by >= n ? 1 : 0;
                    due("TURNS " + turns + ", form 1 " + n + ", PACE " + p, x.winds(0, 0, doing(9, 9, p), 2), due);
                }
            }
        }
        due("990 by 990", with(1, 11, 2, 9, MOST + ";form 1 1").winds(0, 0, doing(9, 9, 99), 2), 1);
        due("990 by 991", with(1, 20, 2, 5, MOST + ";form 1 1").winds(0, 0, doing(9, 9, 99), 2), 0);
        due("980 by 990", with(1, 11, 2, 9, MOST + ";form 1 1").winds(0, 0, doing(9, 9, 98), 2), 0);
    }

    private static void formGreatest() {
        Due.sentence("the greatest k such that .. is no less than the n of any of form 1 to k");
        int[][] laws = {{3, 6, 9, 12}, {12, 9, 6, 3}, {5, 5, 5, 5}, {2, 8, 4, 6}, {0, 0, 9, 1}, {0, 1, 2, 99}, {7, 3, 9, 9}};
        for (int[] n : laws) {
            HoneyWinds x = with(5, 5, 0, 1, TEN + ";form 1 " + n[0] + ";form 2 " + n[1] + ";form 3 " + n[2] + ";form 4 " + n[3]);
            for (int p = 0; p <= 99; p++) {
                int due = p < n[0] ? 0 : p < n[1] ? 1 : p < n[2] ? 2 : p < n[3] ? 3 : 4;
                due("forms from " + n[0] + " on at PACE " + p, x.winds(0, 0, doing(9, 9, p), 2), due);
            }
        }
    }

    private static void formNotEvenOne() {
        Due.sentence("(0: not even than that of form 1)");
        HoneyWinds x = with(5, 5, 0, 1, TEN + ";form 1 50;form 2 0;form 3 0;form 4 0");
        due("PACE 49", x.winds(0, 0, doing(9, 9, 49), 2), 0);
        due("PACE 50", x.winds(0, 0, doing(9, 9, 50), 2), 4);
        HoneyWinds y = with(5, 5, 0, 1, TEN + ";form 1 0");
        due("PACE 0, form 1 0", y.winds(0, 0, doing(9, 9, 0), 2), 1);
        HoneyWinds z = with(5, 5, 0, 1, TEN + ";form 1 1");
        due("PACE 0, form 1 1", z.winds(0, 0, doing(9, 9, 0), 2), 0);
    }
}
