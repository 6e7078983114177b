import java.nio.charset.StandardCharsets;
import java.util.NoSuchElementException;

/** What the tests share: comparing, feeding texts, and the count of what was wrong. */
final class Check {
    private static int wrong = 0;
    private static int compared = 0;
    private static String about = "";

    private Check() {
    }

    interface Call {
        long answer();
    }

    /** What is compared from here on belongs to these words, which are told beside what is wrong. */
    static void about(String words) {
        about = words;
    }

    static int compared() {
        return compared;
    }

    private static void wrong(String what) {
        wrong++;
        System.out.println(about + what);
    }

    static void same(String what, long got, long want) {
        compared++;
        if (got != want) {
            wrong(what + " answered " + got + ", due is " + want);
        }
    }

    static void same(String what, boolean got, boolean want) {
        same(what, got ? 1 : 0, want ? 1 : 0);
    }

    static void same(String what, String got, String want) {
        compared++;
        if (!got.equals(want)) {
            wrong(what + " answered '" + got + "', due is '" + want + "'");
        }
    }

    static void throwsNoSuch(String what, Call call) {
        boolean thrown = false;
        try {
            call.answer();
        } catch (NoSuchElementException e) {
            thrown = true;
        }
        same(what + " throws", thrown, true);
    }

    /** Puts a text behind an empty tape. */
    static void feed(HiddenOrLost x, String text) {
        byte[] bytes = text.getBytes(StandardCharsets.ISO_8859_1);
        x.end(0);
        for (int at = 0; at < bytes.length; at += 20) {
            x.feed(four(bytes, at), four(bytes, at + 4), four(bytes, at + 8), four(bytes, at + 12), four(bytes, at + 16));
        }
        x.end(bytes.length);
    }

    static int four(byte[] bytes, int at) {
        int number = 0;
        for (int i = at; i < at + 4; i++) {
            number = number << 8 | (i < bytes.length ? bytes[i] & 255 : 0);
        }
        return number;
    }

    static HiddenOrLost withField(String text) {
        HiddenOrLost x = new HiddenOrLost();
        feed(x, text);
        int lines = x.field();
        if (lines < 0) {
            wrong("a test's field has a fault of kind " + x.fault() + " at " + (-1 - lines) + ": " + text);
        }
        return x;
    }

    static int book(HiddenOrLost x, int lives, String text) {
        feed(x, text);
        return x.book(lives);
    }

    static int sentence(HiddenOrLost x, String text) {
        feed(x, text);
        return x.sentence();
    }

    static String label(HiddenOrLost x, int f) {
        int n = x.label(f);
        StringBuilder text = new StringBuilder();
        for (int i = 0; i < n; i++) {
            text.append((char) x.byteAt(i));
        }
        return text.toString();
    }

    static void close() {
        System.out.println(compared + " answers compared, " + wrong + " wrong");
        if (wrong != 0 || compared == 0) {
            System.exit(1);
        }
    }
}
