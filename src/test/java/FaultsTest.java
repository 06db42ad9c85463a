import java.nio.charset.StandardCharsets;

/** Promise 5's FAULT, compared with the model's for many texts: short ones, all of them; long ones, one byte changed. */
public final class FaultsTest {
    private static final String[] TEXTS = {
        "wind 12 !(h<3|f=45)&p>6;ease 7 s=8|g<90;form 4 90;heap 10;cool 0",
        "wind 0 !!!!!h>1&!(!(!h>1))|(((((f=2)))))&((p<3|!s=4)&!(g>5))",
        "heap 1;heap 2;heap 3;heap 4;heap 5;heap 6;heap 7;heap 8;heap 9;heap 10",
        "form 1 0;form 2 10;form 3 99;ease 9 (h>0)"};
    private static final String SIGNS = "wieasformhpcl0123456789 ;|&!()<=>gxH\t/:-,\u0000\u007f\u0080\u00ff\u00a0\u0130";
    private static int texts = 0;

    public static void main(String[] args) {
        Due.sentence("FAULT: the place of the first byte with which no LAW can go on (the size, if it ends too early)");
        allBehind("wind 1 ", "h>10!()&|; ", 4);
        allBehind("wind 1 h>1", "h<2!()&|;0", 3);
        allBehind("ease 9 ((!(!h>1", ")&|!(h=0;", 4);
        allBehind("heap 1;heap 1;heap 1;heap 1;heap 1;heap 1;heap 1;heap 1;heap 1;heap 1", ";he 01", 3);
        allBehind("", "wefhc;i 1", 3);
        allBehind("form", " 01245;", 4);
        for (String text : TEXTS) {
            oneByteChanged(text);
        }
        System.out.println(texts + " texts were compared");
        Due.end();
    }

    private static void same(String text) {
        texts++;
        HoneyWinds x = new HoneyWinds();
        Due.feed(x, text.getBytes(StandardCharsets.ISO_8859_1));
        int fault = Model.faultOf(text);
        Due.due("law of '" + text + "'", x.law(0, 1), fault < 0 ? 0 : -10 - fault);
        Due.due("law of '" + text + "': bytes that stay", x.count(5), 0);
    }

    private static void allBehind(String text, String signs, int more) {
        same(text);
        for (int i = 0; i < signs.length() && more > 0; i++) {
            allBehind(text + signs.charAt(i), signs, more - 1);
        }
    }

    private static void oneByteChanged(String text) {
        for (int i = 0; i <= text.length(); i++) {
            String ahead = text.substring(0, i);
            String behind = text.substring(i);
            same(ahead);
            for (int s = 0; s < SIGNS.length(); s++) {
                char sign = (char) (SIGNS.charAt(s) & 255);
                same(ahead + sign + behind);
                if (i < text.length()) {
                    same(ahead + sign + text.substring(i + 1));
                }
            }
            if (i < text.length()) {
                same(ahead + text.substring(i + 1));
            }
        }
    }
}
