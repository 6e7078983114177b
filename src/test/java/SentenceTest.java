/** Promises 39 and 40: a SENTENCE, its faults, and of which finds it may be said. */
public final class SentenceTest {
    private static final String FIELD = "person ann;person bob;find ring lid 1 1 0 400 9;find urn pot 1 1 2 410 20;find skull bone 2 0 9 300 7;"
        + "find as coin 0 2 3 420 99;find dup coin 1 1 0 400 50;fear war 0 9;";

    private SentenceTest() {
    }

    public static void main(String[] args) {
        faults();
        onesAndDepth();
        length();
        meaning();
        saying();
        whatStays();
        Check.close();
    }

    private static void fault(int kind, String marked) {
        int place = marked.indexOf('^');
        HiddenOrLost x = Check.withField(FIELD);
        Check.sentence(x, "coin");
        Check.same("place of the fault in " + marked, Check.sentence(x, marked.substring(0, place) + marked.substring(place + 1)), -1 - place);
        Check.same("kind of the fault in " + marked, x.fault(), kind);
        Check.same("the tape is empty behind it", x.count(6), 0);
        Check.same("the sentence before stays", x.said(-1), 2);
    }

    private static void good(int ones, String text) {
        HiddenOrLost x = Check.withField(FIELD);
        Check.same("ones of " + text, Check.sentence(x, text), ones);
        Check.same("no fault in " + text, x.fault(), 0);
        Check.same("the tape is empty behind it", x.count(6), 0);
    }

    private static void faults() {
        fault(1, "^");
        fault(1, "  \n^");
        fault(1, "^;");
        fault(1, "^ann");
        fault(1, "^7");
        fault(1, "^and");
        fault(1, "^hidden");
        fault(1, "^field");
        fault(1, "^night");
        fault(1, "coin^;");
        fault(1, "coin ^coin");
        fault(1, "coin ^not coin");
        fault(1, "coin and^");
        fault(1, "coin or ^or coin");
        fault(1, "coin and ^) ");
        fault(1, "coin ^)");
        fault(1, "(coin^");
        fault(1, "(coin ^(coin)");
        fault(1, "(^)");
        fault(1, "not^");
        fault(1, "of ^coin");
        fault(1, "of ^7");
        fault(1, "of^");
        fault(1, "of ^ann7");
        fault(1, "year ^7");
        fault(1, "year^");
        fault(1, "year < ^ann");
        fault(1, "year < ^= 4");
        fault(1, "year < ^1000");
        fault(1, "year =4^.");
        fault(1, "year < 4 ^5");
        fault(1, "coin ^. and");
        fault(1, "^Coin");
        fault(3, "of ^zoe");
        fault(3, "of ^ring");
        fault(3, "of ^war");
        fault(3, "coin or of ^zoe )");
        for (String word : "field person find fear hint hidden lost buried prior gets king finder owner risk digs laid given plough night or and".split(" ")) {
            fault(1, "^" + word);
            fault(1, "not ^" + word);
        }
        good(1, "year>0");
    }

    private static String times(int n, String part) {
        StringBuilder text = new StringBuilder();
        for (int i = 0; i < n; i++) {
            text.append(part);
        }
        return text.toString();
    }

    private static void onesAndDepth() {
        good(1, "coin");
        good(2, "not coin");
        good(2, "(coin)");
        good(5, "not (coin and not pot)");
        good(3, "coin and pot or lid");
        good(20, times(19, "lid or ") + "lid");
        good(20, times(19, "lid and ") + "lid");
        good(20, times(10, "not lid and ").substring(0, 10 * 12 - 5));
        fault(4, times(20, "lid or ") + "^lid");
        fault(4, times(20, "lid or ") + "^not lid");
        fault(4, times(20, "lid or ") + "^(lid)");
        fault(1, times(20, "lid or ") + "^ann");
        fault(1, times(20, "lid or ") + "^");
        fault(4, times(19, "lid or ") + "not ^lid");
        good(8, times(7, "not ") + "coin");
        fault(4, times(8, "not ") + "^coin");
        fault(4, times(8, "not ") + "^not coin");
        good(8, times(7, "(") + "coin" + times(7, ")"));
        fault(4, times(8, "(") + "^coin" + times(8, ")"));
        fault(4, times(4, "not (") + "^coin or");
        good(9, times(3, "not (") + "not coin" + times(3, ")") + " or lid");
        good(16, times(7, "not ") + "coin and " + times(7, "not ") + "lid");
        fault(1, times(8, "(") + "^zoe");
        fault(1, times(8, "(") + "^)");
        fault(4, times(7, "(") + "coin or not ^lid");
    }

    private static void length() {
        good(1, times(196, " ") + "coin");
        good(1, "coin" + times(196, " "));
        fault(1, times(196, " ") + "coin^ ");
        fault(1, times(197, " ") + "coi^n");
        fault(1, times(197, " ") + "coi^n or");
        fault(1, times(197, " ") + "of ^zoe");
        fault(3, times(196, " ") + "of ^zoe");
        fault(1, times(200, " ") + "^zoe");
        fault(1, times(199, " ") + "^coins");
        fault(1, times(195, " ") + "(coin^)");
    }

    private static String all(HiddenOrLost x, String text) {
        Check.sentence(x, text);
        StringBuilder which = new StringBuilder();
        for (int k = 0; k < x.said(-1); k++) {
            which.append(x.said(k));
        }
        return which.toString();
    }

    private static void meaning() {
        HiddenOrLost x = Check.withField(FIELD);
        for (int i = 0; i < 3; i++) {
            x.dig(0, 1, 1);
        }
        x.give(1, 1);
        x.tell(0);
        x.sell(4);
        Check.same("ground", all(x, "ground"), "23");
        Check.same("found", all(x, "found"), "1");
        Check.same("told", all(x, "told"), "0");
        Check.same("sold", all(x, "sold"), "4");
        Check.same("coin", all(x, "coin"), "34");
        Check.same("pot", all(x, "pot"), "1");
        Check.same("lid", all(x, "lid"), "0");
        Check.same("bone", all(x, "bone"), "2");
        Check.same("of ann", all(x, "of ann"), "");
        Check.same("of bob", all(x, "of bob"), "1");
        Check.same("year<", all(x, "year<400"), "2");
        Check.same("year=", all(x, "year = 400"), "04");
        Check.same("year>", all(x, "year>400"), "13");
        Check.same("value<", all(x, "value<20"), "02");
        Check.same("value=", all(x, "value=20"), "1");
        Check.same("value>", all(x, "value>20"), "34");
        Check.same("deep<", all(x, "deep<2"), "04");
        Check.same("deep=", all(x, "deep=2"), "1");
        Check.same("deep>", all(x, "deep>002"), "23");
        Check.same("number<", all(x, "number<2"), "01");
        Check.same("number=", all(x, "number=2"), "2");
        Check.same("number>", all(x, "number>2"), "34");
        Check.same("not", all(x, "not coin"), "012");
        Check.same("not not", all(x, "not not coin"), "34");
        Check.same("not binds one", all(x, "not coin and ground"), "2");
        Check.same("not bracket", all(x, "not (coin and ground)"), "0124");
        Check.same("and ahead of or", all(x, "lid or coin and sold"), "04");
        Check.same("or, then and", all(x, "coin and sold or lid"), "04");
        Check.same("brackets", all(x, "(lid or coin) and sold"), "4");
        Check.same("from left to right", all(x, "lid or pot or bone and told"), "01");
        Check.same("within", all(x, "not(not(lid or of bob)or number=1)"), "0");
        Check.same("without blanks", all(x, "(lid)or(pot)and(year>9)"), "01");
    }

    private static void saying() {
        HiddenOrLost x = Check.withField(FIELD);
        Check.same("no sentence", x.said(-1), -1);
        Check.same("no sentence", x.said(0), -1);
        Check.sentence(x, "coin");
        Check.same("how many", x.said(-1), 2);
        Check.same("said(0)", x.said(0), 3);
        Check.same("said(1)", x.said(1), 4);
        Check.same("said(2)", x.said(2), -1);
        Check.same("said(-2)", x.said(-2), -1);
        Check.same("said of the greatest", x.said(Integer.MAX_VALUE), -1);
        Check.sentence(x, "told");
        Check.same("none", x.said(-1), 0);
        Check.same("none of none", x.said(0), -1);
        x.dig(0, 1, 1);
        x.tell(4);
        Check.same("said of what is so now", x.said(0), 4);
        x.undo();
        Check.same("and of what is undone", x.said(-1), 0);
        HiddenOrLost none = new HiddenOrLost();
        Check.sentence(none, "not coin");
        Check.same("of no finds", none.said(-1), 0);
    }

    private static void whatStays() {
        HiddenOrLost x = Check.withField(FIELD);
        Check.sentence(x, "of bob");
        x.dig(1, 1, 1);
        Check.same("of bob", x.said(-1), 2);
        x.undo();
        Check.same("undo leaves the sentence", x.said(-1), 0);
        Check.book(x, 1, "bob digs 1 1;");
        Check.same("a book leaves it, too", x.said(-1), 2);
        Check.feed(x, FIELD);
        x.field();
        Check.same("a new field has none", x.said(-1), -1);
    }
}
