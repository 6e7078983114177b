/** Promises 6 to 17: what is so in a field, what persons, plough and nights do, and how it is undone. */
public final class ActsTest {
    private static final String FIELD = "field 3 3;person ann;person bob;find ring lid 1 1 0 400 9;find urn pot 1 1 2 410 20;"
        + "find skull bone 2 0 9 300 7;find as coin 0 2 3 420 99;";

    private ActsTest() {
    }

    public static void main(String[] args) {
        asking();
        digging();
        tellingAndSelling();
        laying();
        giving();
        ploughing();
        ploughAtTheEdge();
        nights();
        lastNights();
        undoing();
        undoingEachAct();
        Check.close();
    }

    private static void asking() {
        HiddenOrLost x = Check.withField(FIELD);
        Check.throwsNoSuch("find(4, 0)", () -> x.find(4, 0));
        Check.throwsNoSuch("find(-1, 0)", () -> x.find(-1, 0));
        Check.throwsNoSuch("find(0, 8)", () -> x.find(0, 8));
        Check.throwsNoSuch("find(0, -1)", () -> x.find(0, -1));
        Check.same("person(2, 0)", x.person(2, 0), -1);
        Check.same("person(-1, 0)", x.person(-1, 0), -1);
        Check.same("person(0, 4)", x.person(0, 4), -1);
        Check.same("person(0, -1)", x.person(0, -1), -1);
        Check.same("cell(3, 0, 0)", x.cell(3, 0, 0), -1);
        Check.same("cell(0, 3, 0)", x.cell(0, 3, 0), -1);
        Check.same("cell(-1, 0, 0)", x.cell(-1, 0, 0), -1);
        Check.same("cell(0, -1, 0)", x.cell(0, -1, 0), -1);
        Check.same("cell(0, 0, 3)", x.cell(0, 0, 3), -1);
        Check.same("cell(0, 0, -1)", x.cell(0, 0, -1), -1);
        Check.same("now(-1)", x.now(-1), -1);
        Check.same("now(9)", x.now(9), -1);
        Check.same("cell(1, 1, 1)", x.cell(1, 1, 1), 3);
        Check.same("cell(2, 0, 1)", x.cell(2, 0, 1), 4);
        Check.same("cell(1, 0, 1)", x.cell(1, 0, 1), 0);
        Check.same("cell(0, 1, 1)", x.cell(0, 1, 1), 0);
        Check.same("now(1)", x.now(1), 15);
    }

    private static void digging() {
        HiddenOrLost x = Check.withField(FIELD);
        Check.same("dig by none", x.dig(2, 0, 0), -1);
        Check.same("dig by -1", x.dig(-1, 0, 0), -1);
        Check.same("dig beyond", x.dig(0, 3, 0), -1);
        Check.same("dig below", x.dig(0, 0, -1), -1);
        for (int i = 1; i <= 9; i++) {
            Check.same("dig " + i, x.dig(0, 2, 0), 0);
            Check.same("so deep", x.cell(2, 0, 0), i);
        }
        Check.same("the tenth", x.dig(1, 2, 0), 1);
        Check.same("who has it", x.find(2, 7), 1);
        Check.same("somebody has it", x.find(2, 6), 1);
        Check.same("how deep it lay", x.find(2, 3), 9);
        Check.same("no more", x.dig(1, 2, 0), -2);
        Check.same("cell's worth", x.cell(2, 0, 2), 0);
        Check.same("worth beside it", x.cell(1, 0, 2), 6);
        Check.same("worth four steps off", x.cell(0, 2, 2), 2);
        Check.same("ann dug", x.person(0, 2), 9);
        Check.same("bob dug", x.person(1, 2), 1);
        Check.same("bob found", x.person(1, 3), 1);
        Check.same("ann found", x.person(0, 3), 0);
        Check.same("bob has", x.person(1, 1), 4);
        Check.same("all digs", x.now(6), 10);
        Check.same("in the ground", x.now(1), 11);
        Check.same("had", x.now(2), 4);
        HiddenOrLost y = Check.withField("person a;find b coin 0 0 0 0 0;find c coin 0 0 0 0 0;");
        Check.same("two at once", y.dig(0, 0, 0), 2);
    }

    private static void tellingAndSelling() {
        HiddenOrLost x = Check.withField(FIELD);
        Check.same("tell what nobody has", x.tell(0), 1);
        Check.same("sell what nobody has", x.sell(0), 1);
        Check.same("tell(4)", x.tell(4), -1);
        Check.same("tell(-1)", x.tell(-1), -1);
        Check.same("sell(4)", x.sell(4), -1);
        Check.same("sell(-1)", x.sell(-1), -1);
        for (int i = 0; i < 3; i++) {
            x.dig(i % 2, 1, 1);
        }
        Check.same("sell", x.sell(0), 0);
        Check.same("half of 9, cut", x.person(0, 0), 4);
        Check.same("sold", x.find(0, 6), 3);
        Check.same("who had it last", x.find(0, 7), 0);
        Check.same("sell again", x.sell(0), 1);
        Check.same("tell what is sold", x.tell(0), 1);
        Check.same("tell", x.tell(1), 0);
        Check.same("told", x.find(1, 6), 2);
        Check.same("sell what is told", x.sell(1), 1);
        Check.same("lay what is told", x.lay(1, 0, 0), 1);
        Check.same("give what is told", x.give(1, 1), 1);
        Check.same("now told", x.now(3), 2);
        Check.same("now sold", x.now(4), 1);
        Check.same("coin", x.now(5), 4);
        Check.same("value told", x.now(7), 20);
        Check.same("nobody has one", x.now(2), 0);
    }

    private static void laying() {
        HiddenOrLost x = Check.withField(FIELD);
        Check.same("lay what nobody has", x.lay(1, 0, 0), 1);
        for (int i = 0; i < 3; i++) {
            x.dig(0, 1, 1);
        }
        Check.same("lay(4, ..)", x.lay(4, 0, 0), -1);
        Check.same("lay beyond", x.lay(1, 3, 0), -1);
        Check.same("lay below", x.lay(1, 0, -1), -1);
        Check.same("lay", x.lay(1, 2, 1), 0);
        Check.same("x", x.find(1, 1), 2);
        Check.same("y", x.find(1, 2), 1);
        Check.same("not deep", x.find(1, 3), 0);
        Check.same("in the ground", x.find(1, 6), 0);
        Check.same("who had it last", x.find(1, 7), 0);
        Check.same("has no more of it", x.person(0, 1), 1);
        Check.same("lay again", x.lay(1, 2, 1), 1);
        Check.same("found again", x.dig(1, 2, 1), 1);
        Check.same("by the other", x.find(1, 7), 1);
        HiddenOrLost y = Check.withField("person a;find b coin 0 0 0 0 0;");
        for (int i = 0; i < 10; i++) {
            y.dig(0, 0, 0);
        }
        Check.same("lay it where all is dug", y.lay(0, 0, 0), 0);
        Check.same("it can't be found there", y.dig(0, 0, 0), -2);
        y.plough(1);
        Check.same("no cell is dug any more", y.cell(0, 0, 0), 0);
    }

    private static void giving() {
        HiddenOrLost x = Check.withField(FIELD);
        Check.same("give what nobody has", x.give(0, 0), 1);
        x.dig(0, 1, 1);
        Check.same("give(4, 0)", x.give(4, 0), -1);
        Check.same("give(0, 2)", x.give(0, 2), -1);
        Check.same("give(0, -1)", x.give(0, -1), -1);
        Check.same("he has it", x.give(0, 0), 2);
        Check.same("give", x.give(0, 1), 0);
        Check.same("bob has it", x.person(1, 1), 1);
        Check.same("ann has not", x.person(0, 1), 0);
        Check.same("but found it", x.person(0, 3), 1);
        Check.same("bob did not", x.person(1, 3), 0);
        x.sell(0);
        Check.same("bob's coin", x.person(1, 0), 4);
        Check.same("ann's coin", x.person(0, 0), 0);
    }

    private static void ploughing() {
        HiddenOrLost x = Check.withField(FIELD);
        int[] dx = {0, 1, -1, 0, 0};
        int[] dy = {0, 0, 0, 1, -1};
        for (int seed = -3; seed < 40; seed++) {
            HiddenOrLost y = Check.withField(FIELD);
            y.dig(0, 0, 0);
            y.dig(0, 1, 1);
            Draws draws = new Draws(seed);
            int way = draws.of(5);
            int deep = draws.of(3);
            // The ring is had; the urn lies 2 deep in the midst; the others lie too deep.
            Check.same("plough " + seed, y.plough(seed), way == 0 ? 0 : 1);
            Check.same("x", y.find(1, 1), 1 + dx[way]);
            Check.same("y", y.find(1, 2), 1 + dy[way]);
            Check.same("deep", y.find(1, 3), deep);
            Check.same("nine deep stays", y.find(2, 1) + 10 * y.find(2, 2) + 100 * y.find(2, 3), 902);
            Check.same("three deep stays", y.find(3, 1) + 10 * y.find(3, 2) + 100 * y.find(3, 3), 320);
            Check.same("what is had stays", y.find(0, 1) + 10 * y.find(0, 2), 11);
            Check.same("not dug", y.cell(0, 0, 0) + y.cell(1, 1, 0), 0);
            Check.same("how often", y.now(8), 1);
            Check.same("digs stay", y.now(6), 2);
        }
        x.plough(5);
        x.plough(5);
        Check.same("ploughed twice", x.now(8), 2);
    }

    private static void ploughAtTheEdge() {
        boolean stayed = false;
        for (int seed = 0; seed < 60; seed++) {
            HiddenOrLost x = Check.withField("field 2 2;find a coin 0 0 0 0 0;find b coin 1 1 0 0 0;");
            Draws draws = new Draws(seed);
            int wayA = draws.of(5);
            int deepA = draws.of(3);
            int wayB = draws.of(5);
            int deepB = draws.of(3);
            int moved = (wayA == 1 || wayA == 3 ? 1 : 0) + (wayB == 2 || wayB == 4 ? 1 : 0);
            Check.same("plough at the edge " + seed, x.plough(seed), moved);
            Check.same("a's x", x.find(0, 1), wayA == 1 ? 1 : 0);
            Check.same("a's y", x.find(0, 2), wayA == 3 ? 1 : 0);
            Check.same("a deep", x.find(0, 3), deepA);
            Check.same("b's x", x.find(1, 1), wayB == 2 ? 0 : 1);
            Check.same("b's y", x.find(1, 2), wayB == 4 ? 0 : 1);
            Check.same("b deep", x.find(1, 3), deepB);
            stayed |= moved == 0;
        }
        Check.same("some seed moved nothing", stayed, true);
    }

    private static void nights() {
        HiddenOrLost none = Check.withField("find a coin 0 0 0 0 0;");
        Check.same("no persons", none.nights(1, 1), -1);
        HiddenOrLost x = Check.withField("person p;");
        Check.same("nights(0, 1)", x.nights(0, 1), -1);
        Check.same("nights(31, 1)", x.nights(31, 1), -1);
        Check.same("nights(-1, 1)", x.nights(-1, 1), -1);
        Check.same("none went by", x.now(0), 0);
        for (int seed = 0; seed < 40; seed++) {
            HiddenOrLost y = Check.withField("field 2 3;person p;person q;find a coin 0 0 0 0 11;");
            Draws draws = new Draws(seed);
            int status = 0;
            int who = -1;
            for (int night = 0; night < 8; night++) {
                int p = draws.of(2);
                int cell = draws.of(6);
                if (cell == 0 && status == 0) {
                    status = 1;
                    who = p;
                }
                if (status == 1) {
                    int way = draws.of(4);
                    status = way == 0 ? 2 : way == 1 ? 3 : 1;
                }
            }
            Check.same("nights " + seed, y.nights(8, seed), 8);
            Check.same("status", y.find(0, 6), status);
            Check.same("who", y.find(0, 7), who);
            Check.same("coin", y.now(5), status == 3 ? 5 : 0);
            Check.same("the night", y.now(0), 8);
            Check.same("digs", y.now(6), 8);
        }
        HiddenOrLost z = Check.withField("field 2 3;person p;person q;");
        z.nights(1, 77);
        Draws draws = new Draws(77);
        int p = draws.of(2);
        int cell = draws.of(6);
        Check.same("who dug", z.person(p, 2), 1);
        Check.same("which cell, row by row", z.cell(cell % 2, cell / 2, 0), 1);
    }

    private static void lastNights() {
        HiddenOrLost x = Check.withField("field 2 2;person p;");
        for (int i = 0; i < 13; i++) {
            Check.same("thirty", x.nights(30, i), 30);
        }
        Check.same("the last ten", x.nights(30, 1), 10);
        Check.same("all are over", x.now(0), 400);
        Check.same("none goes by", x.nights(30, 1), 0);
        Check.same("40 digs, no more", x.now(6), 40);
        Check.same("four cells", x.cell(0, 0, 0) + x.cell(1, 0, 0) + x.cell(0, 1, 0) + x.cell(1, 1, 0), 40);
        Check.same("eight can be undone: the one of 0 is none", x.undo(), 7);
        Check.same("the night then", x.now(0), 390);
        Check.same("ten again", x.nights(11, 1), 10);
    }

    private static void undoing() {
        HiddenOrLost x = Check.withField(FIELD);
        Check.same("nothing yet", x.undo(), -1);
        for (int i = 0; i < 9; i++) {
            x.dig(0, i % 3, i / 3);
        }
        for (int i = 7; i >= 0; i--) {
            Check.same("undo", x.undo(), i);
            Check.same("digs", x.now(6), i + 1);
        }
        Check.same("the ninth is not kept", x.undo(), -1);
        Check.same("it stays done", x.cell(0, 0, 0), 1);
        int found = x.person(0, 3);
        x.dig(0, 1, 1);
        Check.same("one more is found", x.person(0, 3), found + 1);
        Check.same("it goes on", x.undo(), 0);
        Check.same("it is not found any more", x.person(0, 3), found);
    }

    private static void undoingEachAct() {
        HiddenOrLost x = Check.withField(FIELD);
        for (int i = 0; i < 10; i++) {
            x.dig(0, 1, 1);
        }
        Check.feed(x, "");
        x.dig(0, 1, 1);
        x.dig(0, 9, 9);
        Check.same("what is refused is no act", x.undo(), 7);
        Check.same("so the tenth is undone", x.cell(1, 1, 0), 9);
        x.tell(0);
        Check.same("tell", x.undo(), 7);
        Check.same("is undone", x.find(0, 6), 1);
        x.sell(1);
        Check.same("sell", x.undo(), 7);
        Check.same("is undone", x.person(0, 0), 0);
        x.give(1, 1);
        x.give(1, 1);
        x.give(2, 1);
        Check.same("give", x.undo(), 7);
        Check.same("is undone", x.find(1, 7), 0);
        x.lay(1, 0, 0);
        Check.same("lay", x.undo(), 7);
        Check.same("is undone", x.find(1, 1) + 10 * x.find(1, 6), 11);
        Check.same("how deep it lay, too", x.find(1, 3), 2);
        x.plough(3);
        Check.same("plough", x.undo(), 7);
        Check.same("is undone", x.cell(1, 1, 0), 9);
        Check.same("its count, too", x.now(8), 0);
        x.nights(9, 9);
        Check.same("nights", x.undo(), 7);
        Check.same("are undone", x.now(0), 0);
        Check.same("digs, too", x.now(6), 9);
        Check.book(x, 1, "ring told;ring told;");
        Check.same("a book of which a line was lived", x.undo(), 7);
        Check.same("is undone", x.find(0, 6), 1);
        Check.book(x, 1, "skull told;");
        Check.book(x, 1, "");
        Check.book(x, 0, "ring told;");
        Check.same("other books are no acts", x.undo(), 6);
        Check.same("so it is the dig ahead of them", x.cell(1, 1, 0), 8);
    }
}
