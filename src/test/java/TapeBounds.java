import java.util.Arrays;

/** Promises 1 to 5 and 43: a new object, the tape, the FIELD's text, the latest FAULT, and what is counted. */
final class TapeBounds {
    private static final int[] FAR = {-1, Integer.MIN_VALUE, Integer.MAX_VALUE};

    private TapeBounds() {
    }

    static void run() {
        newObject();
        feeding();
        full();
        ending();
        field();
        fieldBefore();
        fault();
        counting();
    }

    private static void newObject() {
        Bounds.promise(1, "An empty FIELD;", () -> {
            HiddenOrLost x = new HiddenOrLost();
            int[] counts = {0, 0, 0, 4, 4, 3};
            for (int what = 0; what < 6; what++) {
                Check.same("count(" + what + ")", x.count(what), counts[what]);
            }
            for (int what = 0; what < 9; what++) {
                Check.same("now(" + what + ")", x.now(what), 0);
            }
            Check.throwsNoSuch("find(0, 0)", () -> x.find(0, 0));
            Check.same("person(0, 0)", x.person(0, 0), -1);
            Check.same("fear(0, 0)", x.fear(0, 0), -1);
            for (int cell = 0; cell < 16; cell++) {
                Check.same("dug", x.cell(cell % 4, cell / 4, 0), 0);
                Check.same("in the ground", x.cell(cell % 4, cell / 4, 1), 0);
                Check.same("worth", x.cell(cell % 4, cell / 4, 2), 1);
            }
            Check.same("no sentence", x.said(-1), -1);
            Check.same("nothing can be undone", x.undo(), -1);
            Check.same("nothing is kept in 0", x.restore(0), false);
            Check.same("nothing is kept in 1", x.restore(1), false);
            HiddenOrLost y = new HiddenOrLost();
            y.field();
            Check.same("as an empty text tells it", Twins.all(x), Twins.all(y));
        });
        Bounds.promise(1, "an empty tape.", () -> {
            HiddenOrLost x = new HiddenOrLost();
            Check.same("bytes", x.count(6), 0);
            Check.same("end(1)", x.end(1), false);
            Check.same("end(0)", x.end(0), true);
            Check.same("the first twenty", x.feed(0, 0, 0, 0, 0), 20);
        });
    }

    private static int feed(HiddenOrLost x, byte[] twenty) {
        return x.feed(Check.four(twenty, 0), Check.four(twenty, 4), Check.four(twenty, 8), Check.four(twenty, 12), Check.four(twenty, 16));
    }

    private static byte[] blanks() {
        byte[] twenty = new byte[20];
        Arrays.fill(twenty, (byte) ' ');
        return twenty;
    }

    private static void feeding() {
        Bounds.promise(2, "Twenty bytes come behind the tape, of each number the highest first: how many it has;", () -> {
            for (int i = 0; i < 40; i++) {
                // Of forty bytes one alone is no blank: its place tells where it came.
                for (int sign : new int[] {255, 128, 127, 0}) {
                    HiddenOrLost x = new HiddenOrLost();
                    byte[] odd = blanks();
                    odd[i % 20] = (byte) sign;
                    Check.same("feed", feed(x, i < 20 ? odd : blanks()), 20);
                    Check.same("feed once more", feed(x, i < 20 ? blanks() : odd), 40);
                    Check.same("where the byte " + sign + " came", x.field(), -1 - i);
                }
            }
            HiddenOrLost x = new HiddenOrLost();
            x.feed(0x70657273, 0x6f6e2061, 0x6e6e3b70, 0x6572736f, 0x6e20626f);
            x.feed(0x623b0a20, 0x20202020, 0x20202020, 0x20202020, 0x20202020);
            Check.same("person ann;person bob;", x.field(), 2);
        });
    }

    private static void full() {
        Bounds.promise(2, "NONE, and none come, if it would have more than 940.", () -> {
            HiddenOrLost x = new HiddenOrLost();
            for (int n = 20; n <= 940; n += 20) {
                Check.same("feed", feed(x, blanks()), n);
            }
            for (int cut = 940; cut > 920; cut--) {
                Check.same("end(" + cut + ")", x.end(cut), true);
                Check.same("feed behind " + cut, x.feed(-1, -1, -1, -1, -1), -1);
                Check.same("bytes", x.count(6), cut);
            }
            Check.same("end(920)", x.end(920), true);
            Check.same("feed behind 920", x.feed(-1, -1, -1, -1, -1), 940);
            Check.same("feed behind 940", x.feed(-1, -1, -1, -1, -1), -1);
            Check.same("end(900)", x.end(900), true);
            Check.same("blanks alone stand there", x.field(), 0);
        });
    }

    private static void ending() {
        Bounds.promise(3, "The tape has its first n bytes alone: true;", () -> {
            HiddenOrLost x = new HiddenOrLost();
            Check.feed(x, "person a;person b;");
            Check.same("all of them", x.end(18), true);
            Check.same("bytes", x.count(6), 18);
            Check.same("nine", x.end(9), true);
            Check.same("bytes", x.count(6), 9);
            Check.same("what comes, comes behind them", x.feed(0x70657273, 0x6f6e2063, 0x3b202020, 0x20202020, 0x20202020), 29);
            Check.same("a and c", x.field(), 2);
            Check.same("b is none", Check.book(x, 0, "b digs 0 0;"), -2);
            Check.same("c is one", Check.book(x, 0, "c digs 0 0;"), -1);
            Check.feed(x, "risk 12345;");
            Check.same("cut within a number", x.end(6), true);
            Check.same("the number ends there", x.field(), -7);
            Check.feed(x, "risk 13;");
            Check.same("cut behind a digit", x.end(6), true);
            Check.same("the end is the fault", x.field(), -7);
            Check.same("not the number that stood there", x.fault(), 1);
            Check.feed(x, "person abcd;    .");
            Check.same("cut ahead of blanks", x.end(12), true);
            Check.same("nothing is behind it", x.field(), 1);
            Check.feed(x, "zzz");
            Check.same("none", x.end(0), true);
            Check.same("bytes", x.count(6), 0);
            Check.same("none of none", x.end(0), true);
        });
        Bounds.promise(3, "false, if it has not so many, or n is below 0.", () -> {
            HiddenOrLost x = new HiddenOrLost();
            Check.same("one of none", x.end(1), false);
            Check.feed(x, "person a;");
            Check.same("ten of nine", x.end(10), false);
            for (int n : FAR) {
                Check.same("end(" + n + ")", x.end(n), false);
            }
            Check.same("bytes", x.count(6), 9);
            x.end(8);
            Check.same("what was cut off does not come back", x.end(9), false);
            Check.same("bytes", x.count(6), 8);
            for (int n : new int[] {4, -1, Integer.MIN_VALUE, Integer.MAX_VALUE}) {
                Twins.refused("end(" + n + ")", 0, y -> y.end(n) ? 1 : 0);
            }
        });
    }

    private static void field() {
        Bounds.promise(4, "The tape (empty then, here and below, whatever is answered, but where 'the tape stays' is told) is the FIELD now: how many LINES;", () -> {
            HiddenOrLost x = new HiddenOrLost();
            Check.same("an empty tape", x.field(), 0);
            Check.feed(x, "person a;find b coin 0 0 0 0 0;");
            Check.same("two lines", x.field(), 2);
            Check.same("the tape behind field()", x.count(6), 0);
            Check.feed(x, "person ;");
            Check.same("a fault", x.field(), -8);
            Check.same("the tape behind a fault of field()", x.count(6), 0);
            Check.book(x, 0, "a digs 0 0;");
            Check.same("the tape behind book()", x.count(6), 0);
            Check.same("a wrong line", Check.book(x, 1, "b told;"), 0);
            Check.same("the tape behind a wrong line", x.count(6), 0);
            Check.same("a fault", Check.book(x, 1, "zz told;"), -2);
            Check.same("the tape behind a fault of book()", x.count(6), 0);
            Check.same("a sentence", Check.sentence(x, "coin"), 1);
            Check.same("the tape behind sentence()", x.count(6), 0);
            Check.same("a fault", Check.sentence(x, "coins"), -1);
            Check.same("the tape behind a fault of sentence()", x.count(6), 0);
            Check.feed(x, "abc");
            x.book(2);
            x.image(0);
            x.restore(0);
            x.label(0);
            x.undo();
            Check.same("the tape behind other calls", x.count(6), 3);
            oneBehindTheOther();
        });
    }

    /** Nothing that one FIELD tells is so in those behind it; nor what a FIELD with a FAULT tells ahead of it. */
    private static void oneBehindTheOther() {
        HiddenOrLost x = new HiddenOrLost();
        for (int i = 0; i < 3; i++) {
            Check.feed(x, TextBounds.fullest());
            Check.same("48 lines", x.field(), 48);
            Check.same("all of it", x.count(0) + x.count(1) + x.count(2) + x.count(3) + x.count(4), 34);
            if (i == 1) {
                Check.feed(x, "field 2 2;" + TextBounds.fullest());
                Check.same("a fault", x.field(), -11);
            }
        }
        String due = Twins.state(Check.withField("person a;"));
        for (int i = 0; i < 3; i++) {
            Check.feed(x, "person a;");
            Check.same("one line", x.field(), 1);
            Check.same("as of a new object", Twins.state(x), due);
            Check.feed(x, "risk 9;field 2 3;fear b 0 0;prior lost 9;hint lost coin 9;gets lost king 9;find c coin 0 0 0 0 0.");
            Check.same("a fault", x.field() < 0, true);
        }
    }

    private static void fieldBefore() {
        Bounds.promise(4, "-1 less the place of a FAULT: the FIELD before stays.", () -> {
            Faults.inField(1, 0, ";");
            Faults.inField(1, 900, " ".repeat(901));
            Faults.inField(1, 899, Faults.wide(".", 900));
            String[] bad = {".", "person a", "field 2 2;risk 9;person a;find b bone 1 1 5 5 5;fear c 5 6;prior lost 9;hint lost coin 0;gets lost king 12;;"};
            for (String text : bad) {
                HiddenOrLost x = Twins.one();
                HiddenOrLost y = Twins.one();
                Check.feed(x, text);
                Check.same("field() of " + text, x.field() < 0, true);
                Check.same("a fault of kind 1, as the latest one was", x.fault(), 1);
                y.end(0);
                Twins.alike("field() of " + text, x, y);
            }
        });
    }

    private static void fault() {
        Bounds.promise(5, "The kind of the FAULT of the latest field(), book() or sentence()", () -> {
            HiddenOrLost x = Check.withField("person a;find b coin 0 0 0 0 0;");
            String persons = "person a;person b;person c;person d;person e;person f;";
            String[] fields = {"person", "risk 13;", "risk 3;risk 3;", persons + "person g;"};
            String[] books = {"a", "night 31;", "c told;", "plough 7;".repeat(41)};
            String[] sentences = {"", "coin", "of b", "not ".repeat(8) + "coin"};
            for (int kind = 1; kind <= 4; kind++) {
                Check.feed(x, fields[kind - 1]);
                x.field();
                Check.same("of a field", x.fault(), kind);
                Check.book(x, 0, books[kind - 1]);
                Check.same("of a book", x.fault(), kind);
                Check.sentence(x, sentences[kind - 1]);
                Check.same("of a sentence", x.fault(), kind == 2 ? 0 : kind);
            }
            Check.feed(x, "person");
            x.field();
            Check.same("the latest of the three", x.fault(), 1);
        });
        Bounds.promise(5, "(a book() of -1000 leaves it);", () -> {
            HiddenOrLost x = Check.withField("person a;");
            Check.same("-1000", x.book(2), -1000);
            Check.same("0 stays", x.fault(), 0);
            Check.book(x, 0, "night 0;");
            for (int lives : new int[] {2, -1, Integer.MIN_VALUE, Integer.MAX_VALUE}) {
                Check.feed(x, "c told;");
                Check.same("-1000", x.book(lives), -1000);
                Check.same("2 stays", x.fault(), 2);
            }
            Check.same("then it is one of kind 3", x.book(0), -2);
            Check.same("so it is told", x.fault(), 3);
        });
        Bounds.promise(5, "0 without one and ahead of any.", () -> {
            HiddenOrLost x = new HiddenOrLost();
            Check.same("ahead of any", x.fault(), 0);
            String[] good = {"person a;", "a digs 0 0;", "of a"};
            for (int which = 0; which < 3; which++) {
                Check.feed(x, ".");
                x.field();
                Check.same("of one", x.fault(), 1);
                Check.feed(x, good[which]);
                int answer = which == 0 ? x.field() : which == 1 ? x.book(0) : x.sentence();
                Check.same("good", answer, which == 1 ? -1 : 1);
                Check.same("without one", x.fault(), 0);
                if (which == 0) {
                    Check.book(x, 0, "b told;");
                    Check.same("not told", x.fault(), 3);
                    Check.book(x, 1, "");
                    Check.same("an empty book has none", x.fault(), 0);
                }
            }
        });
    }

    private static void counting() {
        Bounds.promise(43, "0 PERSONS, 1 FINDS, 2 FEARS, 3 WIDE, 4 HIGH, 5 'risk', 6 bytes of the tape.", () -> {
            HiddenOrLost x = Check.withField(TextBounds.fullest());
            int[] most = {6, 10, 6, 6, 6, 3, 0};
            for (int what = 0; what < 7; what++) {
                Check.same("count(" + what + ")", x.count(what), most[what]);
            }
            HiddenOrLost y = Check.withField("field 2 3;person a;fear b 0 0;fear c 0 0;risk 12;");
            int[] due = {1, 0, 2, 2, 3, 12, 0};
            for (int what = 0; what < 7; what++) {
                Check.same("count(" + what + ")", y.count(what), due[what]);
            }
            Check.feed(y, " ".repeat(940));
            Check.same("bytes", y.count(6), 940);
            y.end(1);
            Check.same("one byte", y.count(6), 1);
            Check.same("risk of 0", Check.withField("risk 0;").count(5), 0);
        });
        Bounds.promise(43, "NONE for another what.", () -> {
            for (int what : new int[] {-1, 7, Integer.MIN_VALUE, Integer.MAX_VALUE}) {
                Check.same("count(" + what + ")", new HiddenOrLost().count(what), -1);
                Twins.refused("count(" + what + ")", -1, x -> x.count(what));
            }
        });
    }
}
