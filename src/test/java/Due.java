import java.nio.charset.StandardCharsets;

/** What the tests share: answers that are due, and a law told as a text. */
final class Due {
    private static int wrong = 0;

    private Due() {
    }

    static void due(String call, long got, long want) {
        if (got != want) {
            wrong++;
            System.out.println(call + " answered " + got + ", due is " + want);
        }
    }

    /** Feeds a text to the tape, eight bytes at a time; answers what the last feed answered. */
    static int feed(HoneyWinds x, String text) {
        return feed(x, text.getBytes(StandardCharsets.ISO_8859_1));
    }

    static int feed(HoneyWinds x, byte[] bytes) {
        int answer = x.count(5);
        for (int i = 0; i < bytes.length; i += 8) {
            int n = Math.min(8, bytes.length - i);
            long w = 0;
            for (int j = 0; j < n; j++) {
                w = w << 8 | bytes[i + j] & 255;
            }
            answer = x.feed(w, n);
        }
        return answer;
    }

    static int law(HoneyWinds x, int kind, int v, String text) {
        feed(x, text);
        return x.law(kind, v);
    }

    static void end() {
        System.out.println(wrong == 0 ? "all answers are as due" : wrong + " answers are not as due");
        if (wrong != 0) {
            System.exit(1);
        }
    }
}
