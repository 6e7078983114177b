/** Promises 10 to 17: what is done call by call, what is refused, and how it is undone. */
final class CallBounds {
    private static final int[] FAR = {-1, Integer.MIN_VALUE, Integer.MAX_VALUE};

    private CallBounds() {
    }

    static void run() {
        dig();
        tell();
        sell();
        lay();
        give();
        plough();
        nights();
        undo();
        undoEach();
        undoAtMost();
        undoNone();
    }

    // The twins have two persons, cells of 3 by 2, and finds 0 had by person 0, 1 and 2 told, 3 in the ground, 4 sold.

    private static void dig() {
        Bounds.promise(10, "A PERSON DIGS a cell: how many FINDS he FOUND;", () -> {
            HiddenOrLost x = Check.withField("field 6 6;person p;" + ThoughtBounds.manyFinds(9, "pot", "0 0") + "find z pot 5 5 1 0 0;");
            Check.same("nine", x.dig(0, 0, 0), 9);
            Check.same("none any more", x.dig(0, 0, 0), 0);
            Check.same("none so far", x.dig(0, 5, 5), 0);
            Check.same("the last", x.dig(0, 5, 5), 1);
            HiddenOrLost ten = Check.withField("person p;" + ThoughtBounds.manyFinds(10, "pot", "0 0"));
            Check.same("ten", ten.dig(0, 0, 0), 10);
        });
        Bounds.promise(10, "-2: it is DUG 10 deep;", () -> {
            Twins.refused("dig(0, 2, 0)", -2, x -> x.dig(0, 2, 0));
            Twins.refused("dig(1, 2, 0)", -2, x -> x.dig(1, 2, 0));
            HiddenOrLost x = Check.withField("person p;");
            for (int i = 0; i < 10; i++) {
                Check.same("dig " + i, x.dig(0, 3, 3), 0);
            }
            Check.same("the eleventh", x.dig(0, 3, 3), -2);
        });
        Bounds.promise(10, "NONE: no such ones.", () -> {
            for (int far : FAR) {
                Twins.refused("dig(" + far + ", 0, 0)", -1, x -> x.dig(far, 0, 0));
                Twins.refused("dig(0, " + far + ", 0)", -1, x -> x.dig(0, far, 0));
                Twins.refused("dig(0, 0, " + far + ")", -1, x -> x.dig(0, 0, far));
            }
            Twins.refused("dig(2, 0, 0) of two", -1, x -> x.dig(2, 0, 0));
            Twins.refused("dig(2, 2, 0): no such person, ten deep", -1, x -> x.dig(2, 2, 0));
            Twins.refused("dig(0, 3, 0) of three", -1, x -> x.dig(0, 3, 0));
            Twins.refused("dig(0, 0, 2) of two", -1, x -> x.dig(0, 0, 2));
            Check.same("no persons", new HiddenOrLost().dig(0, 0, 0), -1);
            Check.same("the last of six", Check.withField(TextBounds.fullest()).dig(5, 5, 5), 0);
            Check.same("a seventh", Check.withField(TextBounds.fullest()).dig(6, 5, 5), -1);
        });
    }

    private static void tell() {
        Bounds.promise(11, "A FIND is TOLD: 0, or why not;", () -> {
            HiddenOrLost x = Twins.one();
            Check.same("he has it", x.tell(0), 0);
            Check.same("told", x.find(0, 6), 2);
            Check.same("once more", x.tell(0), 1);
            Twins.refused("tell(1), told", 1, y -> y.tell(1));
            Twins.refused("tell(3), in the ground", 1, y -> y.tell(3));
            Twins.refused("tell(4), sold", 1, y -> y.tell(4));
        });
        Bounds.promise(11, "NONE: no such one.", () -> {
            for (int far : FAR) {
                Twins.refused("tell(" + far + ")", -1, x -> x.tell(far));
            }
            Twins.refused("tell(5) of five", -1, x -> x.tell(5));
            Check.same("tell(0) of none", new HiddenOrLost().tell(0), -1);
            Check.same("tell(10) of ten", Check.withField(TextBounds.fullest()).tell(10), -1);
            Check.same("tell(9) of ten", Check.withField(TextBounds.fullest()).tell(9), 1);
        });
    }

    private static void sell() {
        Bounds.promise(12, "It is SOLD: 0, or why not;", () -> {
            HiddenOrLost x = Twins.one();
            int coin = x.person(0, 0);
            Check.same("he has it", x.sell(0), 0);
            Check.same("sold", x.find(0, 6), 3);
            Check.same("half of 9, cut", x.person(0, 0), coin + 4);
            Check.same("once more", x.sell(0), 1);
            Check.same("no more coin", x.person(0, 0), coin + 4);
            Twins.refused("sell(1), told", 1, y -> y.sell(1));
            Twins.refused("sell(3), in the ground", 1, y -> y.sell(3));
            Twins.refused("sell(4), sold", 1, y -> y.sell(4));
        });
        Bounds.promise(12, "NONE: no such one.", () -> {
            for (int far : FAR) {
                Twins.refused("sell(" + far + ")", -1, x -> x.sell(far));
            }
            Twins.refused("sell(5) of five", -1, x -> x.sell(5));
            Check.same("sell(0) of none", new HiddenOrLost().sell(0), -1);
            Check.same("sell(10) of ten", Check.withField(TextBounds.fullest()).sell(10), -1);
            Check.same("sell(9) of ten", Check.withField(TextBounds.fullest()).sell(9), 1);
        });
    }

    private static void lay() {
        Bounds.promise(13, "It is LAID in a cell: 0, or why not;", () -> {
            for (int cell = 0; cell < 6; cell++) {
                HiddenOrLost x = Twins.one();
                Check.same("he has it", x.lay(0, cell % 3, cell / 3), 0);
                Check.same("it lies there", x.cell(cell % 3, cell / 3, 1) & 1, 1);
                Check.same("once more", x.lay(0, 0, 0), 1);
            }
            Twins.refused("lay(1, 0, 0), told", 1, y -> y.lay(1, 0, 0));
            Twins.refused("lay(3, 0, 0), in the ground", 1, y -> y.lay(3, 0, 0));
            Twins.refused("lay(4, 0, 0), sold", 1, y -> y.lay(4, 0, 0));
        });
        Bounds.promise(13, "NONE: no such ones.", () -> {
            for (int far : FAR) {
                Twins.refused("lay(" + far + ", 0, 0)", -1, x -> x.lay(far, 0, 0));
                Twins.refused("lay(0, " + far + ", 0)", -1, x -> x.lay(0, far, 0));
                Twins.refused("lay(0, 0, " + far + ")", -1, x -> x.lay(0, 0, far));
            }
            Twins.refused("lay(5, 0, 0) of five", -1, x -> x.lay(5, 0, 0));
            Twins.refused("lay(0, 3, 0) of three", -1, x -> x.lay(0, 3, 0));
            Twins.refused("lay(0, 0, 2) of two", -1, x -> x.lay(0, 0, 2));
            Twins.refused("lay(3, 3, 0): nobody has it, no such cell", -1, x -> x.lay(3, 3, 0));
            Check.same("lay(0, 0, 0) of none", new HiddenOrLost().lay(0, 0, 0), -1);
            Check.same("lay(10, 0, 0) of ten", Check.withField(TextBounds.fullest()).lay(10, 0, 0), -1);
        });
    }

    private static void give() {
        Bounds.promise(14, "It is GIVEN to a PERSON: 0, or why not;", () -> {
            HiddenOrLost x = Twins.one();
            Check.same("to the other", x.give(0, 1), 0);
            Check.same("he has it", x.person(1, 1), 1);
            Twins.refused("give(0, 0), he has it", 2, y -> y.give(0, 0));
            for (int p = 0; p < 2; p++) {
                int to = p;
                Twins.refused("give(1, " + p + "), told", 1, y -> y.give(1, to));
                Twins.refused("give(3, " + p + "), in the ground", 1, y -> y.give(3, to));
                Twins.refused("give(4, " + p + "), sold", 1, y -> y.give(4, to));
            }
        });
        Bounds.promise(14, "NONE: no such ones.", () -> {
            for (int far : FAR) {
                Twins.refused("give(" + far + ", 0)", -1, x -> x.give(far, 0));
                Twins.refused("give(0, " + far + ")", -1, x -> x.give(0, far));
            }
            Twins.refused("give(5, 0) of five", -1, x -> x.give(5, 0));
            Twins.refused("give(0, 2) of two", -1, x -> x.give(0, 2));
            Twins.refused("give(3, 2): nobody has it, no such person", -1, x -> x.give(3, 2));
            Check.same("give(0, 0) of none", new HiddenOrLost().give(0, 0), -1);
            Check.same("give(9, 6) of six", Check.withField(TextBounds.fullest()).give(9, 6), -1);
            Check.same("give(9, 5) of six", Check.withField(TextBounds.fullest()).give(9, 5), 1);
        });
    }

    private static void plough() {
        Bounds.promise(15, "The field is PLOUGHED with a seed: how many FINDS lie in another cell then than ahead of it.", () -> {
            HiddenOrLost none = new HiddenOrLost();
            Check.same("no finds", none.plough(7), 0);
            Check.same("but ploughed", none.now(8), 1);
            String two = "field 2 2;find a pot 0 0 0 0 0;find b pot 1 1 2 0 0;";
            Check.same("both go", Check.withField(two).plough(Draws.seedFor(5, 1, 3, 0, 5, 4)), 2);
            Check.same("one goes, one stays", Check.withField(two).plough(Draws.seedFor(5, 0, 3, 0, 5, 2)), 1);
            Check.same("one goes, one would leave the field", Check.withField(two).plough(Draws.seedFor(5, 3, 3, 0, 5, 1)), 1);
            Check.same("both stay", Check.withField(two).plough(Draws.seedFor(5, 0, 3, 0, 5, 0)), 0);
            Check.same("both would leave the field", Check.withField(two).plough(Draws.seedFor(5, 4, 3, 1, 5, 3)), 0);
            Check.same("all too deep", Check.withField("find a pot 1 1 3 0 0;find b pot 1 1 9 0 0;").plough(1), 0);
            for (int seed : new int[] {Integer.MIN_VALUE, -1, 0, Integer.MAX_VALUE}) {
                HiddenOrLost x = Check.withField("field 6 6;find a pot 0 0 0 0 0;find b pot 5 5 1 0 0;find c pot 2 2 2 0 0;find d pot 3 3 3 0 0;");
                int[] before = new int[4];
                for (int f = 0; f < 4; f++) {
                    before[f] = x.find(f, 1) * 10 + x.find(f, 2);
                }
                int moved = x.plough(seed);
                for (int f = 0; f < 4; f++) {
                    moved -= x.find(f, 1) * 10 + x.find(f, 2) == before[f] ? 0 : 1;
                }
                Check.same("as many as lie elsewhere by " + seed, moved, 0);
                Check.same("ploughed once", x.now(8), 1);
            }
        });
    }

    private static void nights() {
        Bounds.promise(16, "n (1 to 30) NIGHTS with a seed: how many went by;", () -> {
            for (int n = 1; n <= 30; n++) {
                HiddenOrLost x = Check.withField("person p;");
                Check.same("nights(" + n + ", 5)", x.nights(n, 5), n);
                Check.same("the night", x.now(0), n);
                Check.same("he dug each night", x.person(0, 2), n);
            }
            HiddenOrLost x = Check.withField("field 6 6;person p;");
            for (int i = 0; i < 13; i++) {
                x.nights(30, i);
            }
            Check.same("ten are left of thirty", x.nights(30, 5), 10);
            Check.same("all are over", x.now(0), 400);
            Check.same("none is left", x.nights(1, 5), 0);
            Check.same("none of thirty", x.nights(30, 5), 0);
            x.undo();
            Check.same("just as many as are left", x.nights(10, 5), 10);
            x.undo();
            Check.same("one fewer", x.nights(9, 5), 9);
            Check.same("the last", x.nights(2, 5), 1);
        });
        Bounds.promise(16, "NONE: not as told, no PERSONS.", () -> {
            for (int n : new int[] {0, 31, -1, Integer.MIN_VALUE, Integer.MAX_VALUE}) {
                Twins.refused("nights(" + n + ", 1)", -1, x -> x.nights(n, 1));
            }
            HiddenOrLost none = Check.withField("find a pot 0 0 0 0 0;");
            Check.same("no persons", none.nights(1, 1), -1);
            Check.same("thirty of no persons", none.nights(30, 1), -1);
            Check.same("none went by", none.now(0), 0);
            Check.same("nothing can be undone", none.undo(), -1);
            HiddenOrLost over = Check.withField("person p;");
            for (int i = 0; i < 14; i++) {
                over.nights(30, i);
            }
            Check.same("all are over, but it is not as told", over.nights(31, 1), -1);
            Check.same("nor so", over.nights(0, 1), -1);
        });
    }

    private static void undo() {
        Bounds.promise(17, "The latest of dig() that was done, tell(), sell(), lay(), give() of 0, plough(), nights() above 0,"
            + " a BOOK of which a LINE was lived is undone:", () -> {
            isUndone("dig() that found", x -> x.dig(0, 2, 1) + x.dig(0, 2, 1) + x.dig(0, 2, 1) - 1, 3);
            isUndone("dig() that found nothing", x -> x.dig(1, 1, 0), 1);
            isUndone("tell()", x -> x.tell(0), 1);
            isUndone("sell()", x -> x.sell(0), 1);
            isUndone("lay()", x -> x.lay(0, 0, 0), 1);
            isUndone("give()", x -> x.give(0, 1), 1);
            isUndone("plough() that moved", x -> x.plough(Draws.seedFor(5, 2)) - 1, 1);
            isUndone("plough() that moved nothing", x -> x.plough(Draws.seedFor(5, 0)), 1);
            isUndone("nights()", x -> x.nights(1, 3) - 1, 1);
            isUndone("thirty nights()", x -> x.nights(30, 3) - 30, 1);
        });
    }

    interface Act {
        int answer(HiddenOrLost x);
    }

    /** The act answers 0 and is undone, with all that was done in it, by so many undo(). */
    private static void isUndone(String what, Act act, int times) {
        HiddenOrLost x = Twins.one();
        String before = Twins.all(x);
        Check.same(what, act.answer(x), 0);
        Check.same(what + " does something", Twins.all(x).equals(before), false);
        for (int i = 0; i < times; i++) {
            Check.same("undo " + what, x.undo(), 7 - i);
        }
        Check.same("all is as it was ahead of " + what, Twins.all(x), before);
    }

    private static void undoEach() {
        Bounds.promise(17, "a BOOK of which a LINE was lived is undone: how many more can be", () -> {
            HiddenOrLost x = Twins.one();
            String before = Twins.state(x);
            Check.same("three lines, the fourth wrong", Check.book(x, 1, "plough 3;night 2;plough 4;urn told;"), 3);
            Check.same("one act", x.undo(), 7);
            Check.same("all three are undone", Twins.state(x), before);
            Check.same("one line", Check.book(x, 1, "plough 3;"), -1);
            Check.same("one act", x.undo(), 7);
            Check.same("undone", Twins.state(x), before);
            HiddenOrLost y = Check.withField("person p;");
            y.dig(0, 0, 0);
            Check.book(y, 1, "p digs 0 0;p digs 0 0;");
            Check.same("one more", y.undo(), 1);
            Check.same("dug once", y.cell(0, 0, 0), 1);
            Check.same("no more", y.undo(), 0);
            Check.same("not dug", y.cell(0, 0, 0), 0);
        });
    }

    private static void undoAtMost() {
        Bounds.promise(17, "(8 at most are kept);", () -> {
            for (int acts = 1; acts <= 20; acts++) {
                HiddenOrLost x = Check.withField("field 6 6;person p;");
                for (int i = 0; i < acts; i++) {
                    x.dig(0, i % 6, i / 6);
                }
                int kept = Math.min(acts, 8);
                for (int i = kept - 1; i >= 0; i--) {
                    Check.same("undo of " + acts + " acts", x.undo(), i);
                    int left = acts - kept + i;
                    Check.same("digs left", x.now(6), left);
                    Check.same("the latest was undone", x.cell(left % 6, left / 6, 0), 0);
                }
                Check.same("no more can be", x.undo(), -1);
                Check.same("the rest stays", x.now(6), acts - kept);
            }
            HiddenOrLost x = Check.withField("field 6 6;person p;");
            for (int i = 0; i < 8; i++) {
                x.dig(0, i % 6, i / 6);
            }
            for (int i = 0; i < 5; i++) {
                x.undo();
            }
            for (int i = 0; i < 6; i++) {
                x.dig(0, i, 5);
            }
            for (int i = 7; i >= 0; i--) {
                Check.same("undo, some of them anew", x.undo(), i);
            }
            Check.same("one of nine stays", x.now(6), 1);
            Check.same("the first", x.cell(0, 0, 0), 1);
        });
    }

    private static void undoNone() {
        Bounds.promise(17, "NONE: none is.", () -> {
            HiddenOrLost x = Twins.one();
            for (int i = 0; i < 8; i++) {
                x.undo();
            }
            String before = Twins.all(x);
            Check.same("none is left", x.undo(), -1);
            Check.same("all stays", Twins.all(x), before);
            Check.same("of a new object", new HiddenOrLost().undo(), -1);
            HiddenOrLost y = Check.withField("person p;find a pot 0 0 0 0 0;");
            Check.same("behind a field", y.undo(), -1);
            y.tell(0);
            y.sell(0);
            y.lay(0, 0, 0);
            y.give(0, 0);
            y.nights(0, 0);
            y.dig(0, 4, 4);
            Check.book(y, 1, "a told;");
            Check.book(y, 1, "");
            Check.book(y, 0, "p digs 0 0;");
            Check.book(y, 1, "p digs 0;");
            y.doubt(0, 0, 1, 1);
            y.odds(0, 1, 1);
            y.image(0);
            Check.same("behind what is no act", y.undo(), -1);
            y.dig(0, 0, 0);
            y.restore(0);
            Check.same("behind restore()", y.undo(), -1);
            y.dig(0, 0, 0);
            Check.feed(y, "person p;");
            y.field();
            Check.same("behind a new field", y.undo(), -1);
            HiddenOrLost over = Check.withField("person p;");
            for (int i = 0; i < 14; i++) {
                over.nights(30, i);
            }
            over.image(0);
            over.restore(0);
            Check.same("nights() of 0", over.nights(30, 1), 0);
            Check.same("is no act", over.undo(), -1);
        });
    }
}
