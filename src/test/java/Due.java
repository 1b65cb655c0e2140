import java.nio.charset.StandardCharsets;
import java.util.ArrayList;
import java.util.List;

/** What the tests share: answers that are due, and short ways to say longer runs of calls. */
final class Due {
    static final int BAD = -1000000001, NO = -1000000002, FULL = -1000000003, NONE = -1000000005;
    static final int NOTHING = -1000000011, KIND = -1000000012, INDEX = -1000000013, SIZE = -1000000014;
    private static int wrong = 0;
    private static int asked = 0;

    private Due() {
    }

    static void is(String call, long got, long want) {
        asked++;
        if (got != want) {
            wrong++;
            System.out.println(call + " answered " + got + ", due is " + want);
        }
    }

    static void end() {
        System.out.println(wrong == 0 ? asked + " answers are as due" : wrong + " answers are not as due");
        if (wrong != 0 || asked == 0) {
            System.exit(1);
        }
    }

    /** Feeds a text to THE TAPE and cuts off what fills up its last twelve bytes. */
    static void feed(BentBranches x, String text) {
        for (int[] part : twelves(text)) {
            x.feed(part[0], part[1], part[2]);
        }
        x.trim(text.length());
    }

    /** A text as the numbers that feed it, blanks behind it. */
    static List<int[]> twelves(String text) {
        byte[] bytes = text.getBytes(StandardCharsets.ISO_8859_1);
        List<int[]> all = new ArrayList<>();
        for (int at = 0; at < bytes.length; at += 12) {
            all.add(new int[] {four(bytes, at), four(bytes, at + 4), four(bytes, at + 8)});
        }
        return all;
    }

    private static int four(byte[] bytes, int at) {
        int v = 0;
        for (int n = at; n < at + 4; n++) {
            v = v << 8 | (n < bytes.length ? bytes[n] & 255 : ' ');
        }
        return v;
    }

    static int text(BentBranches x, String text) {
        feed(x, text);
        return x.text();
    }

    /** One more curve of a kind: 10 times i and j, and c, by turns. */
    static int curve(BentBranches x, int kind, int... numbers) {
        int curve = x.curve(kind);
        for (int n = 0; n + 1 < numbers.length; n += 2) {
            x.put(curve, numbers[n], numbers[n + 1]);
        }
        return curve;
    }
}
