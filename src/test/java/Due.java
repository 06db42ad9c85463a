import java.nio.charset.StandardCharsets;
import java.util.function.IntUnaryOperator;

/** What the tests share: answers that are due, and a law told as a text. */
final class Due {
    private static int wrong = 0;
    private static String sentence = "";

    private Due() {
    }

    /** The document's sentence that the answers from here on are due by. */
    static void sentence(String words) {
        sentence = " (\"" + words + "\")";
    }

    static void due(String call, long got, long want) {
        if (got != want) {
            wrong++;
            System.out.println(call + " answered " + got + ", due is " + want + sentence);
        }
    }

    /** From least to greatest a call is not refused; one beyond either end, and far beyond, it answers as refused. */
    static void within(String call, int least, int greatest, int refused, IntUnaryOperator answer) {
        int[] out = {least - 1, greatest + 1, Integer.MIN_VALUE, Integer.MAX_VALUE};
        for (int n : out) {
            due(call + " with " + n, answer.applyAsInt(n), refused);
        }
        for (int n = least; n <= greatest; n++) {
            int a = answer.applyAsInt(n);
            due(call + " with " + n + " answered " + a + ": refused", a < 0 && a != -5 && a != -6 ? 1 : 0, 0);
        }
    }

    /** Feeds a text to the tape, eight bytes at a time; answers what the last feed answered. */
    static int feed(HoneyWinds x, String text) {
        return feed(x, text.getBytes(StandardCharsets.ISO_8859_1));
    }

    static int feed(HoneyWinds x, byte[] bytes) {
        int answer = x.count(5);
        for (int i = 0; i < bytes.length; i += 8) {
            int n = Math.min(8, bytes.length - i);
            long w = 0;
            for (int j = 0; j < n; j++) {
                w = w << 8 | bytes[i + j] & 255;
            }
            answer = x.feed(w, n);
        }
        return answer;
    }

    static int law(HoneyWinds x, int kind, int v, String text) {
        feed(x, text);
        return x.law(kind, v);
    }

    static void end() {
        System.out.println(wrong == 0 ? "all answers are as due" : wrong + " answers are not as due");
        if (wrong != 0) {
            System.exit(1);
        }
    }
}
