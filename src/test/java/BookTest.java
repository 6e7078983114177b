/** Promises 37 and 38: a BOOK, its faults, and what is told of it. */
public final class BookTest {
    private static final String FIELD = "field 3 2;person ann;person bob;find ring lid 1 1 0 400 9;find urn pot 0 0 1 410 21;fear war 0 9;";

    private BookTest() {
    }

    public static void main(String[] args) {
        faults();
        tooMany();
        length();
        judgedAndLived();
        wrongLines();
        wrongNights();
        linesAsCalls();
        whatStays();
        Check.close();
    }

    private static void fault(int kind, String marked) {
        int place = marked.indexOf('^');
        HiddenOrLost x = Check.withField(FIELD);
        x.dig(0, 1, 1);
        String text = marked.substring(0, place) + marked.substring(place + 1);
        Check.same("place of the fault in " + marked, Check.book(x, 1, text), -2 - place);
        Check.same("kind of the fault in " + marked, x.fault(), kind);
        Check.same("the tape is empty behind it", x.count(6), 0);
        Check.same("nothing is lived", x.now(6) + 10 * x.now(2) + 100 * x.now(0), 11);
        Check.same("nothing is told of it", x.told(0), -1);
        Check.same("but the dig ahead can be undone", x.undo(), 0);
    }

    private static void faults() {
        fault(1, "^;");
        fault(1, "^5;");
        fault(1, "^(ann digs 0 0);");
        fault(1, "^told;");
        fault(1, "^person ann;");
        fault(1, "ann ^told;");
        fault(1, "ann ^;");
        fault(1, "ann^");
        fault(1, "ann digs ^x 0;");
        fault(1, "ann digs 0 ^;");
        fault(1, "ann digs 0 0 ^0;");
        fault(1, "ann digs 0 0^");
        fault(1, "ann digs 0 0;^.");
        fault(1, "ann digs 0 ^1000;");
        fault(1, "ring ^digs 0 0;");
        fault(1, "ring ^found;");
        fault(1, "ring told ^ann;");
        fault(1, "ring given ^told;");
        fault(1, "ring given ^7;");
        fault(1, "ring given^");
        fault(1, "plough ^;");
        fault(1, "plough ^ann;");
        fault(1, "night ^x;");
        fault(1, "night ^0001;");
        fault(2, "ann digs ^6 0;");
        fault(2, "ann digs 0 ^6;");
        fault(2, "ring laid ^9 0;");
        fault(2, "ring laid 0 ^999;");
        fault(2, "night ^0;");
        fault(2, "night ^31;");
        fault(3, "^zoe digs 0 0;");
        fault(3, "^war told;");
        fault(3, "ring given ^urn;");
        fault(3, "ring given ^zoe;");
        fault(3, "ring given ^war;");
        fault(1, "ring told;urn sold;^ringtolds;");
        for (String word : ("field person find coin pot lid bone fear hint hidden lost buried prior gets king finder owner risk digs told sold "
            + "laid given or and not ground found of year value deep number").split(" ")) {
            fault(1, "^" + word + " told;");
        }
        for (String word : "digs plough night ground found of coin or".split(" ")) {
            fault(1, "ring ^" + word + ";");
        }
        for (String word : "told sold laid given plough night".split(" ")) {
            fault(1, "ann ^" + word + " 0 0;");
        }
    }

    private static String lines(int n, String line) {
        StringBuilder text = new StringBuilder();
        for (int i = 0; i < n; i++) {
            text.append(line);
        }
        return text.toString();
    }

    private static void tooMany() {
        HiddenOrLost x = Check.withField(FIELD);
        Check.same("forty lines", Check.book(x, 1, lines(40, "plough 7;")), -1);
        Check.same("all are lived", x.told(1), 40);
        Check.same("ploughed", x.now(8), 40);
        Check.same("undone at once", x.undo(), 0);
        Check.same("not ploughed", x.now(8), 0);
        fault(4, lines(40, "night 1;") + "^night 1;");
        fault(4, lines(40, "night 1;") + "^ring");
        fault(4, lines(40, "night 1;") + "^ann told;");
        fault(3, lines(40, "night 1;") + "^war told;");
        fault(1, lines(40, "night 1;") + "^told;");
        fault(1, lines(40, "night 1;") + "^;");
    }

    private static void length() {
        HiddenOrLost x = Check.withField(FIELD);
        String blanks = lines(391, " ");
        Check.same("400 bytes", Check.book(x, 0, blanks + "plough 7;"), -1);
        fault(1, blanks + "plough 7;^ ");
        fault(1, blanks + "plough 77^;");
        fault(1, blanks + "plough 77^7;");
        fault(1, lines(392, " ") + "plough ^7777;");
        fault(3, lines(399, " ") + "^zoe digs 0 0;");
        fault(1, lines(400, " ") + "^zoe digs 0 0;");
    }

    private static void told(String when, HiddenOrLost x, int why, int lines, int night, int finds) {
        Check.same(when + ": why", x.told(0), why);
        Check.same(when + ": lines ahead", x.told(1), lines);
        Check.same(when + ": the night", x.told(2), night);
        Check.same(when + ": told", x.told(3), finds);
        Check.same(when + ": told(4)", x.told(4), -1);
        Check.same(when + ": told(-1)", x.told(-1), -1);
    }

    private static void judgedAndLived() {
        HiddenOrLost x = Check.withField(FIELD);
        for (int what = 0; what < 4; what++) {
            Check.same("ahead of any", x.told(what), -1);
        }
        String text = "ann digs 1 1;ring given bob;ring told;urn told;bob digs 0 0;";
        Check.same("judged", Check.book(x, 0, text), 3);
        told("judged", x, 11, 3, 0, 1);
        Check.same("no fault", x.fault(), 0);
        Check.same("all stays as it is", x.now(1), 3);
        Check.same("nothing dug", x.now(6), 0);
        Check.same("nothing can be undone", x.undo(), -1);
        Check.same("lived", Check.book(x, 1, text), 3);
        told("lived", x, 11, 3, 0, 1);
        Check.same("as far as it is not wrong", x.now(3), 1);
        Check.same("bob had it", x.find(0, 7), 1);
        Check.same("one dig", x.now(6), 1);
        Check.same("one undo for all", x.undo(), 0);
        Check.same("all in the ground", x.now(1), 3);
        Check.same("none wrong", Check.book(x, 1, "bob digs 0 0; bob digs 0 0\n;urn sold;"), -1);
        told("none wrong", x, 0, 3, 0, 0);
        Check.same("coin", x.person(1, 0), 10);
    }

    private static void wrong(int why, int line, String text) {
        HiddenOrLost x = Check.withField(FIELD);
        Check.same("wrong line of " + text, Check.book(x, 0, text), line);
        Check.same("why of " + text, x.told(0), why);
        Check.same("lived to the same line", Check.book(x, 1, text), line);
        Check.same("for the same reason", x.told(0), why);
        Check.same("lines ahead", x.told(1), line);
        Check.same("undo", x.undo(), line > 0 ? 0 : -1);
    }

    private static void wrongLines() {
        wrong(9, 0, "ann digs 5 5;");
        wrong(39, 0, "ring laid 5 5;");
        wrong(9, 0, "ann digs 3 0;");
        wrong(9, 0, "ann digs 0 2;");
        wrong(1, 10, lines(11, "ann digs 0 0;"));
        wrong(11, 0, "ring told;");
        wrong(11, 2, "ann digs 1 1;ring told;ring told;");
        wrong(21, 0, "ring sold;");
        wrong(21, 2, "ann digs 1 1;ring told;ring sold;");
        wrong(31, 0, "ring laid 0 0;");
        wrong(39, 0, "ring laid 3 0;");
        wrong(39, 1, "ann digs 1 1;ring laid 0 2;");
        wrong(41, 0, "ring given ann;");
        wrong(42, 1, "ann digs 1 1;ring given ann;");
        wrong(41, 2, "ann digs 1 1;ring sold;ring given ann;");
    }

    private static void wrongNights() {
        HiddenOrLost x = Check.withField("find a coin 0 0 0 0 0;");
        Check.same("no persons", Check.book(x, 1, "plough 3;night 1;"), 1);
        told("no persons", x, 59, 1, 0, 0);
        HiddenOrLost y = Check.withField("person p;");
        Check.same("390 nights", Check.book(y, 1, lines(13, "night 30;")), -1);
        told("390 nights", y, 0, 13, 390, 0);
        Check.same("eleven more", Check.book(y, 1, "night 11;"), 0);
        told("eleven more", y, 51, 0, 390, 0);
        Check.same("none went by", y.now(0), 390);
        Check.same("ten more", Check.book(y, 1, "night 10;night 1;"), 1);
        told("ten more", y, 51, 1, 400, 0);
    }

    private static void linesAsCalls() {
        HiddenOrLost x = Check.withField(FIELD);
        HiddenOrLost y = Check.withField(FIELD);
        Check.book(x, 1, "plough 77;night 9;plough 0;night 30;plough 999;");
        y.plough(77);
        y.nights(9, 9);
        y.plough(0);
        y.nights(30, 30);
        y.plough(999);
        for (int f = 0; f < 2; f++) {
            for (int what = 0; what < 8; what++) {
                Check.same("as by calls: find " + f + " " + what, x.find(f, what), y.find(f, what));
            }
        }
        for (int what = 0; what < 9; what++) {
            Check.same("as by calls: now " + what, x.now(what), y.now(what));
        }
        Check.same("one act", x.undo(), 0);
        HiddenOrLost z = Check.withField(FIELD);
        Check.same("laid and found", Check.book(z, 1, "ann digs 1 1;ring laid 2 0;bob digs 2 0;ring sold;"), -1);
        Check.same("bob's coin", z.person(1, 0), 4);
        Check.same("where it lay last", z.find(0, 1) + 10 * z.find(0, 2), 2);
    }

    private static void whatStays() {
        HiddenOrLost x = Check.withField(FIELD);
        Check.book(x, 0, "ring told;");
        Check.same("an empty book is not wrong", Check.book(x, 0, ""), -1);
        told("behind one that was wrong", x, 0, 0, 0, 0);
        Check.book(x, 0, "ann digs 1 1;ring told;");
        told("good", x, 0, 2, 0, 1);
        Check.book(x, 1, "ann digs 1 1;ring tld;");
        told("a fault leaves it", x, 0, 2, 0, 1);
        Check.same("its kind", x.fault(), 1);
        Check.feed(x, "ring told;");
        for (int lives : new int[] {2, -1, Integer.MAX_VALUE}) {
            Check.same("another lives", x.book(lives), -1000);
            Check.same("the tape stays", x.count(6), 10);
            Check.same("the fault stays", x.fault(), 1);
            told("what was told stays", x, 0, 2, 0, 1);
        }
        Check.same("then judged", x.book(0), 0);
        Check.same("no fault", x.fault(), 0);
        Check.feed(x, "");
        x.field();
        told("a new field leaves it", x, 11, 0, 0, 0);
    }
}
