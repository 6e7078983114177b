import java.util.Arrays;

/** The most of everything at once, every call with odd numbers, and walks at a field's edges: nothing may throw by itself. */
public final class EdgeTest {
    private static final int[] ODD = {Integer.MIN_VALUE, -1000, -2, -1, 0, 1, 5, 6, 9, 10, 30, 31, 400, 940, Integer.MAX_VALUE};

    private EdgeTest() {
    }

    public static void main(String[] args) {
        full();
        oddNumbers(new HiddenOrLost());
        oddNumbers(Check.withField(fullField()));
        oddTexts();
        walksAtTheEdges();
        Check.close();
    }

    private static String fullField() {
        StringBuilder text = new StringBuilder("field 6 6;");
        for (int i = 0; i < 6; i++) {
            text.append("person p").append((char) ('a' + i)).append(";fear w").append((char) ('a' + i)).append(" 0 999;");
        }
        for (int i = 0; i < 10; i++) {
            text.append("find f").append((char) ('a' + i)).append(i == 9 ? " coin 5 5 9 999 99;" : " coin 0 0 0 " + 100 * i + " 99;");
        }
        return text.toString();
    }

    private static void full() {
        HiddenOrLost x = Check.withField(fullField());
        Check.same("nine at once", x.dig(5, 0, 0), 9);
        Check.same("had by the last person", x.person(5, 1), 511);
        for (int i = 0; i < 9; i++) {
            x.dig(i % 6, 5, 5);
        }
        Check.same("nine deep", x.dig(0, 5, 5), 1);
        for (int f = 0; f < 10; f++) {
            Check.same("tell", x.tell(f), 0);
        }
        Check.same("all told", x.now(3), 1023);
        Check.same("value", x.now(7), 990);
        Check.same("spread", x.spread(), 90);
        Check.same("pots: 0 to 800 | 999", x.pots(), 800);
        Check.same("the nine", x.early(), 511);
        Check.same("parts", x.parts(), 0);
        Check.same("five of them", x.parted(), 31);
        Check.same("fears", x.fears(), 63);
        Check.same("all stay in a cell by no seed", x.doubt(3, 3, 30, 1) >= 0, true);
        Check.same("odds", x.odds(9, 30, 1), 30);
        Check.same("sentence", Check.sentence(x, "told and number > 8"), 2);
        Check.same("of the last", x.said(0), 9);
        Check.same("plough moves none", x.plough(1), 0);
        Check.same("a night", x.nights(30, 1), 30);
        Check.same("image", x.image(1), true);
        Check.same("restore", x.restore(1), true);
        Check.same("label", Check.label(x, 9), "fj 999 told");
        Check.same("worth", x.cell(5, 5, 2), 12);
    }

    private static void oddNumbers(HiddenOrLost x) {
        for (int a : ODD) {
            x.image(0);
            x.end(a);
            x.person(a, 0);
            x.now(a);
            x.count(a);
            x.tell(a);
            x.sell(a);
            x.plough(a);
            x.best(a);
            x.routeAt(a);
            x.label(a);
            x.byteAt(a);
            x.told(a);
            x.said(a);
            x.image(a);
            x.fear(a, 0);
            x.book(a);
            for (int b : ODD) {
                x.person(a, b);
                x.give(a, b);
                x.nights(a, b);
                x.fear(a, b);
                x.dig(0, a, b);
                x.dig(a, b, 0);
                x.cell(a, b, 0);
                x.cell(0, a, b);
                x.lay(a, b, 0);
                x.lay(0, a, b);
                x.route(a, b, 8);
                x.route(0, 0, b);
                x.doubt(a, b, 2, a);
                x.doubt(0, 0, a, b);
                x.odds(a, 2, b);
                x.odds(0, a, b);
            }
            Check.same("restore", x.restore(0), true);
            Check.same("restore(" + a + ")", x.restore(a), a == 0 || a == 1);
        }
        Check.same("all went well", x.fault(), 0);
    }

    private static void oddTexts() {
        String[] parts = {";", "(", "1", "a", "not ", "(not ", "or ", "a;", "night 1;", "person", ".", "\u00ff", "<", "coin or "};
        HiddenOrLost x = Check.withField("person a;");
        for (String part : parts) {
            char[] many = new char[940];
            for (int i = 0; i < many.length; i++) {
                many[i] = part.charAt(i % part.length());
            }
            String text = new String(many);
            for (int length : new int[] {1, 199, 200, 201, 399, 400, 401, 899, 900, 901, 940}) {
                Check.feed(x, text.substring(0, length));
                Check.same("field of " + part, x.field() < 0, true);
                Check.same("fault of " + part, x.fault() > 0, true);
                Check.book(x, 0, text.substring(0, length));
                Check.sentence(x, text.substring(0, length));
            }
        }
        char[] blanks = new char[940];
        Arrays.fill(blanks, ' ');
        Check.feed(x, new String(blanks));
        Check.same("blanks alone, too many", x.field(), -901);
    }

    private static String walk(HiddenOrLost x, int n) {
        StringBuilder text = new StringBuilder();
        for (int k = 0; k < n; k++) {
            text.append(k > 0 ? " " : "").append(x.routeAt(k));
        }
        return text.toString();
    }

    private static void walksAtTheEdges() {
        HiddenOrLost x = Check.withField("field 6 6;person a;find b coin 5 0 0 0 0;find c coin 0 5 0 0 0;");
        x.dig(0, 5, 0);
        // From (0, 1) the cell of (5, 0) is no neighbour, though its number is the next.
        Check.same("row by row is not beside", x.route(0, 1, 2), 1 + 2);
        Check.same("the least", walk(x, 2), "6 0");
        Check.same("nor back", x.route(5, 0, 2), 12 + 6);
        Check.same("the least", walk(x, 2), "5 4");
        x.dig(0, 0, 5);
        Check.same("nor below", x.route(0, 5, 8), 12 + 6 + 4 + 3 + 4 + 3 + 4 + 6);
        Check.same("round about", walk(x, 8), "30 24 18 19 25 26 32 31");
        HiddenOrLost y = Check.withField("field 6 6;person a;find b coin 3 3 0 0 0;find c coin 0 0 0 0 0;");
        y.dig(0, 3, 3);
        y.route(3, 3, 8);
        Check.feed(y, "field 2 2;");
        y.field();
        Check.same("what was worth much is beyond the field", y.route(1, 1, 8), 4);
        Check.same("four cells", walk(y, 8), "7 1 0 1 0 1 0 6");
    }
}
