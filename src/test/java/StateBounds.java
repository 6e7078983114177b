/** Promises 6 to 9: what is so of a FIND, a PERSON, a cell, and now. */
final class StateBounds {
    private static final int[] FAR = {-1, Integer.MIN_VALUE, Integer.MAX_VALUE};

    private StateBounds() {
    }

    static void run() {
        find();
        person();
        cell();
        now();
    }

    private static HiddenOrLost twoPersons() {
        return Check.withField("person o;person p;find a bone 3 2 1 999 99;find b coin 0 0 0 0 0;");
    }

    private static void isSo(String when, HiddenOrLost x, int f, int... due) {
        for (int what = 0; what < due.length; what++) {
            Check.same(when + ": find(" + f + ", " + what + ")", x.find(f, what), due[what]);
        }
    }

    private static void find() {
        Bounds.promise(6, "Of a FIND: 0 KIND, 1 X, 2 Y, 3 how DEEP (where it lies, lay last), 4 YEAR, 5 VALUE,"
            + " 6 0 in the GROUND, 1 somebody has it, 2 TOLD, 3 SOLD,", () -> {
            HiddenOrLost x = twoPersons();
            isSo("at first", x, 0, 3, 3, 2, 1, 999, 99, 0, -1);
            isSo("at first", x, 1, 0, 0, 0, 0, 0, 0, 0, -1);
            x.dig(0, 3, 2);
            x.dig(1, 3, 2);
            isSo("had: where it lay last", x, 0, 3, 3, 2, 1, 999, 99, 1, 1);
            x.lay(0, 0, 3);
            isSo("laid", x, 0, 3, 0, 3, 0, 999, 99, 0, 1);
            x.dig(0, 0, 3);
            isSo("had again", x, 0, 3, 0, 3, 0, 999, 99, 1, 0);
            x.tell(0);
            isSo("told", x, 0, 3, 0, 3, 0, 999, 99, 2, 0);
            x.dig(1, 0, 0);
            x.sell(1);
            isSo("sold", x, 1, 0, 0, 0, 0, 0, 0, 3, 1);
            HiddenOrLost ten = Check.withField(TextBounds.fullest());
            isSo("the tenth", ten, 9, 2, 0, 0, 0, 0, 0, 0, -1);
        });
        Bounds.promise(6, "7 who has it, had it last (NONE: nobody so far).", () -> {
            HiddenOrLost x = twoPersons();
            Check.same("nobody so far", x.find(1, 7), -1);
            x.dig(1, 0, 0);
            Check.same("who has it", x.find(1, 7), 1);
            x.give(1, 0);
            Check.same("to whom it was given", x.find(1, 7), 0);
            x.lay(1, 1, 1);
            Check.same("who had it last", x.find(1, 7), 0);
            x.plough(3);
            Check.same("the plough leaves that", x.find(1, 7), 0);
            for (int i = 0; i < 4; i++) {
                x.undo();
            }
            Check.same("all undone: nobody so far", x.find(1, 7), -1);
        });
        Bounds.promise(6, "NoSuchElementException: no such ones.", () -> {
            for (int far : FAR) {
                Twins.throwsNoSuch("find(" + far + ", 0)", x -> x.find(far, 0));
                Twins.throwsNoSuch("find(0, " + far + ")", x -> x.find(0, far));
            }
            Twins.throwsNoSuch("find(5, 7) of five", x -> x.find(5, 7));
            Twins.throwsNoSuch("find(4, 8)", x -> x.find(4, 8));
            HiddenOrLost none = new HiddenOrLost();
            Check.throwsNoSuch("find(0, 0) of none", () -> none.find(0, 0));
            HiddenOrLost ten = Check.withField(TextBounds.fullest());
            Check.throwsNoSuch("find(10, 0) of ten", () -> ten.find(10, 0));
        });
    }

    private static void person() {
        Bounds.promise(7, "Of a PERSON: 0 coin, 1 FINDS that he has, as bits,", () -> {
            HiddenOrLost x = Check.withField("person o;person p;" + ThoughtBounds.manyFinds(10, "coin", "0 99"));
            Check.same("no coin", x.person(1, 0), 0);
            Check.same("he has none", x.person(1, 1), 0);
            x.dig(1, 0, 0);
            Check.same("he has all", x.person(1, 1), 1023);
            Check.same("the other has none", x.person(0, 1), 0);
            x.give(9, 0);
            Check.same("all but the last", x.person(1, 1), 511);
            Check.same("the last", x.person(0, 1), 512);
            x.tell(0);
            x.lay(1, 0, 0);
            for (int f = 2; f < 9; f++) {
                x.sell(f);
            }
            Check.same("none any more", x.person(1, 1), 0);
            Check.same("49 by seven", x.person(1, 0), 343);
            x.sell(9);
            Check.same("49", x.person(0, 0), 49);
        });
        Bounds.promise(7, "2 how often he DUG so far,", () -> {
            HiddenOrLost x = Check.withField("field 2 2;person o;person p;");
            Check.same("never", x.person(0, 2), 0);
            for (int i = 0; i < 10; i++) {
                x.dig(0, 1, 1);
            }
            x.dig(0, 1, 1);
            x.dig(0, 2, 2);
            Check.same("ten, the refused ones not", x.person(0, 2), 10);
            Check.book(x, 1, "o digs 0 0;p digs 0 0;");
            Check.same("by a book, too", x.person(0, 2), 11);
            x.plough(1);
            x.nights(1, Draws.seedFor(2, 0, 4, 0));
            Check.same("by night, too", x.person(0, 2), 12);
            Check.same("the other", x.person(1, 2), 1);
            x.undo();
            Check.same("what is undone counts no more", x.person(0, 2), 11);
        });
        Bounds.promise(7, "3 how many FINDS he FOUND by that so far.", () -> {
            HiddenOrLost x = Check.withField("person o;person p;find a pot 0 0 0 0 0;find b pot 0 0 0 0 0;find c pot 0 0 1 0 0;");
            Check.same("none", x.person(0, 3), 0);
            x.dig(0, 0, 0);
            Check.same("two at once", x.person(0, 3), 2);
            x.give(0, 1);
            Check.same("what is given is not found", x.person(1, 3), 0);
            Check.same("but was by the first", x.person(0, 3), 2);
            x.lay(0, 3, 3);
            x.dig(0, 3, 3);
            Check.same("found again", x.person(0, 3), 3);
            x.nights(1, Draws.seedFor(2, 1, 16, 0));
            Check.same("by night", x.person(1, 3), 1);
        });
        Bounds.promise(7, "NONE: no such ones.", () -> {
            for (int far : FAR) {
                Twins.refused("person(" + far + ", 0)", -1, x -> x.person(far, 0));
                Twins.refused("person(0, " + far + ")", -1, x -> x.person(0, far));
            }
            Twins.refused("person(2, 0) of two", -1, x -> x.person(2, 0));
            Twins.refused("person(1, 4)", -1, x -> x.person(1, 4));
            Check.same("person(0, 0) of none", new HiddenOrLost().person(0, 0), -1);
            Check.same("person(6, 0) of six", Check.withField(TextBounds.fullest()).person(6, 0), -1);
            Check.same("person(5, 0) of six", Check.withField(TextBounds.fullest()).person(5, 0), 0);
        });
    }

    private static void cell() {
        Bounds.promise(8, "Of a cell: 0 how deep it is DUG, 1 FINDS in its GROUND, as bits, 2 WORTH.", () -> {
            HiddenOrLost x = Check.withField("field 2 2;person p;" + ThoughtBounds.manyFinds(9, "pot", "0 0") + "find z pot 1 1 9 0 0;");
            Check.same("not dug", x.cell(0, 0, 0), 0);
            Check.same("nine finds", x.cell(0, 0, 1), 511);
            Check.same("the last", x.cell(1, 1, 1), 512);
            Check.same("none", x.cell(1, 0, 1) + x.cell(0, 1, 1), 0);
            Check.same("worth", x.cell(0, 0, 2), 1);
            x.dig(0, 0, 0);
            Check.same("dug", x.cell(0, 0, 0), 1);
            Check.same("no more finds", x.cell(0, 0, 1), 0);
            Check.same("worth", x.cell(0, 0, 2), 12);
            Check.same("worth beside", x.cell(1, 0, 2), 6);
            x.lay(8, 1, 1);
            Check.same("two of them", x.cell(1, 1, 1), 512 + 256);
            for (int i = 0; i < 9; i++) {
                x.dig(0, 0, 0);
            }
            Check.same("ten deep", x.cell(0, 0, 0), 10);
            Check.same("worth nothing", x.cell(0, 0, 2), 0);
        });
        Bounds.promise(8, "NONE: no such ones.", () -> {
            for (int far : FAR) {
                Twins.refused("cell(" + far + ", 0, 0)", -1, x -> x.cell(far, 0, 0));
                Twins.refused("cell(0, " + far + ", 0)", -1, x -> x.cell(0, far, 0));
                Twins.refused("cell(0, 0, " + far + ")", -1, x -> x.cell(0, 0, far));
            }
            // The twins' field has 3 by 2 cells.
            for (int what = 0; what < 3; what++) {
                int asked = what;
                Twins.refused("cell(3, 0, " + what + ")", -1, x -> x.cell(3, 0, asked));
                Twins.refused("cell(0, 2, " + what + ")", -1, x -> x.cell(0, 2, asked));
                Check.same("the last cell", Twins.one().cell(2, 1, what) >= 0, true);
            }
            Twins.refused("cell(0, 0, 3)", -1, x -> x.cell(0, 0, 3));
        });
    }

    private static void now() {
        Bounds.promise(9, "0 the NIGHT, 1 FINDS in the GROUND, 2 that somebody has, 3 TOLD, 4 SOLD, as bits each,", () -> {
            HiddenOrLost x = Check.withField("person p;" + ThoughtBounds.manyFinds(10, "pot", "0 9"));
            Check.same("all in the ground", x.now(1), 1023);
            x.dig(0, 0, 0);
            Check.same("none in the ground", x.now(1), 0);
            Check.same("all are had", x.now(2), 1023);
            x.tell(9);
            x.sell(0);
            x.lay(5, 1, 1);
            Check.same("in the ground", x.now(1), 32);
            Check.same("had", x.now(2), 1023 - 512 - 32 - 1);
            Check.same("told", x.now(3), 512);
            Check.same("sold", x.now(4), 1);
            Check.same("night 0", x.now(0), 0);
            HiddenOrLost y = Check.withField("field 2 2;person p;");
            y.nights(1, 7);
            Check.same("night 1", y.now(0), 1);
            y.nights(30, 7);
            Check.same("night 31", y.now(0), 31);
            y.undo();
            Check.same("night 1 again", y.now(0), 1);
            HiddenOrLost told = ThoughtBounds.told(ThoughtBounds.manyFinds(10, "pot", "0 9"));
            Check.same("all told", told.now(3), 1023);
            HiddenOrLost sold = ThoughtBounds.had(ThoughtBounds.manyFinds(10, "pot", "0 99"));
            for (int f = 0; f < 10; f++) {
                sold.sell(f);
            }
            Check.same("all sold", sold.now(4), 1023);
            Check.same("49 by ten", sold.now(5), 490);
        });
        Bounds.promise(9, "5 all coin, 6 how often was DUG so far, 7 VALUE of all that is TOLD, 8 how often was PLOUGHED so far.", () -> {
            HiddenOrLost x = Check.withField("person o;person p;find a pot 0 0 0 0 99;find b pot 0 0 0 0 3;find c pot 0 0 0 0 50;find d pot 0 0 0 0 49;");
            Check.same("at first", x.now(5) + x.now(6) + x.now(7) + x.now(8), 0);
            x.dig(0, 0, 0);
            x.dig(1, 1, 1);
            Check.same("digs of both", x.now(6), 2);
            x.give(1, 1);
            x.sell(0);
            x.sell(1);
            Check.same("49 and 1", x.now(5), 50);
            x.tell(2);
            Check.same("value", x.now(7), 50);
            x.tell(3);
            Check.same("value of two", x.now(7), 99);
            x.plough(1);
            x.plough(1);
            Check.same("ploughed", x.now(8), 2);
            Check.same("the plough leaves how often was dug", x.now(6), 2);
            x.doubt(0, 0, 30, 1);
            x.odds(2, 30, 1);
            Check.same("doubt() ploughs nothing", x.now(8), 2);
            Check.same("odds() digs nothing", x.now(6), 2);
            Check.same("ten of 99", ThoughtBounds.told(ThoughtBounds.manyFinds(10, "pot", "0 99")).now(7), 990);
        });
        Bounds.promise(9, "NONE for another what.", () -> {
            for (int far : FAR) {
                Twins.refused("now(" + far + ")", -1, x -> x.now(far));
            }
            Twins.refused("now(9)", -1, x -> x.now(9));
        });
    }
}
