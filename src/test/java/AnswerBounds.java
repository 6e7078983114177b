/** Promises 18 to 36: what is thought and told of a field without anything being done in it. */
final class AnswerBounds {
    private static final int[] FAR = {-1, Integer.MIN_VALUE, Integer.MAX_VALUE};

    private AnswerBounds() {
    }

    static void run() {
        belief();
        reading();
        sure();
        asks();
        gains();
        best();
        route();
        routeAt();
        spread();
        doubt();
        fears();
        fear();
        pots();
        early();
        parts();
        parted();
        label();
        byteAt();
        odds();
        oddsOfNone();
    }

    private static void belief() {
        Bounds.promise(18, "BELIEF in a READING.", () -> {
            HiddenOrLost x = Check.withField("prior hidden 1;prior lost 99;prior buried 50;");
            int[] above = {1, 33, 1};
            int[] below = {150, 50, 3};
            for (int r = 0; r < 3; r++) {
                Check.same("above", x.belief(r, 0), above[r]);
                Check.same("below", x.belief(r, 1), below[r]);
            }
            for (int r = 0; r < 3; r++) {
                Check.same("of a new object, above", new HiddenOrLost().belief(r, 0), 1);
                Check.same("of a new object, below", new HiddenOrLost().belief(r, 1), 3);
            }
        });
        Bounds.promise(18, "NoSuchElementException: no such ones.", () -> {
            for (int far : FAR) {
                Twins.throwsNoSuch("belief(" + far + ", 0)", x -> x.belief(far, 0));
                Twins.throwsNoSuch("belief(0, " + far + ")", x -> x.belief(0, far));
            }
            Twins.throwsNoSuch("belief(3, 0)", x -> x.belief(3, 0));
            Twins.throwsNoSuch("belief(2, 2)", x -> x.belief(2, 2));
            Twins.throwsNoSuch("belief(3, 1)", x -> x.belief(3, 1));
        });
    }

    private static void reading() {
        Bounds.promise(19, "The READING with the greatest BELIEF (of like ones the first).", () -> {
            int[][] priors = {{1, 1, 1}, {1, 2, 1}, {1, 1, 2}, {2, 1, 2}, {1, 2, 2}, {2, 2, 1}, {98, 99, 99}, {99, 98, 99}};
            int[] due = {0, 1, 2, 0, 1, 0, 1, 0};
            for (int i = 0; i < due.length; i++) {
                HiddenOrLost x = Check.withField("prior hidden " + priors[i][0] + ";prior lost " + priors[i][1] + ";prior buried " + priors[i][2] + ";");
                Check.same("reading " + i, x.reading(), due[i]);
            }
            Check.same("of a new object", new HiddenOrLost().reading(), 0);
            Check.same("all 0: the first", ThoughtBounds.told("find a lid 0 0 0 0 0;prior buried 99;hint hidden lid 0;hint lost lid 0;hint buried lid 0;").reading(), 0);
            Check.same("one is left", ThoughtBounds.told("find a lid 0 0 0 0 0;prior hidden 99;hint hidden lid 0;hint lost lid 0;hint buried lid 1;").reading(), 2);
        });
    }

    private static void sure() {
        Bounds.promise(20, "SURE by a KIND.", () -> {
            HiddenOrLost x = Check.withField("hint hidden bone 12;hint lost bone 0;");
            int[] above = {1, 1, 1, 2};
            for (int k = 0; k < 4; k++) {
                Check.same("above", x.sure(k, 0), above[k]);
                Check.same("below", x.sure(k, 1), 3);
            }
        });
        Bounds.promise(20, "NoSuchElementException: no such ones.", () -> {
            for (int far : FAR) {
                Twins.throwsNoSuch("sure(" + far + ", 0)", x -> x.sure(far, 0));
                Twins.throwsNoSuch("sure(0, " + far + ")", x -> x.sure(0, far));
            }
            Twins.throwsNoSuch("sure(4, 0)", x -> x.sure(4, 0));
            Twins.throwsNoSuch("sure(3, 2)", x -> x.sure(3, 2));
        });
    }

    private static void asks() {
        Bounds.promise(21, "The KIND by which one is SURE most (of like ones the first).", () -> {
            Check.same("all alike", new HiddenOrLost().asks(), 0);
            for (int k = 0; k < 4; k++) {
                Check.same("by that kind alone", Check.withField("hint lost " + TextBounds.KINDS[k] + " 7;").asks(), k);
                for (int more = k + 1; more < 4; more++) {
                    HiddenOrLost x = Check.withField("hint lost " + TextBounds.KINDS[more] + " 7;hint lost " + TextBounds.KINDS[k] + " 5;");
                    Check.same("two alike: the first", x.asks(), k);
                    HiddenOrLost y = Check.withField("hint lost " + TextBounds.KINDS[more] + " 8;hint lost " + TextBounds.KINDS[k] + " 7;");
                    Check.same("the later one by more", y.asks(), more);
                }
            }
        });
    }

    private static void gains() {
        Bounds.promise(22, "GAINS of a ROLE.", () -> {
            HiddenOrLost x = ThoughtBounds.told("find a pot 0 0 0 0 99;gets hidden king 12;gets hidden finder 0;gets lost finder 0;gets buried finder 0;");
            long[] above = {55, 0, 33};
            for (int role = 0; role < 3; role++) {
                Check.same("above", x.gains(role, 0), above[role]);
                Check.same("below", x.gains(role, 1), 1);
            }
            Check.same("nothing is told, above", new HiddenOrLost().gains(2, 0), 0);
            Check.same("nothing is told, below", new HiddenOrLost().gains(2, 1), 1);
        });
        Bounds.promise(22, "NoSuchElementException: no such ones.", () -> {
            for (int far : FAR) {
                Twins.throwsNoSuch("gains(" + far + ", 0)", x -> x.gains(far, 0));
                Twins.throwsNoSuch("gains(0, " + far + ")", x -> x.gains(0, far));
            }
            Twins.throwsNoSuch("gains(3, 0)", x -> x.gains(3, 0));
            Twins.throwsNoSuch("gains(2, 2)", x -> x.gains(2, 2));
        });
    }

    private static void best() {
        Bounds.promise(23, "What is BEST for who has a FIND: 0 to tell, 1 to sell it;", () -> {
            HiddenOrLost tell = ThoughtBounds.had("find a pot 0 0 0 0 9;risk 4;gets hidden finder 0;gets lost finder 0;gets buried finder 0;");
            HiddenOrLost sell = ThoughtBounds.had("find a pot 0 0 0 0 9;risk 3;gets hidden finder 0;gets lost finder 0;gets buried finder 0;");
            String before = Twins.all(sell);
            Check.same("to tell it", tell.best(0), 0);
            Check.same("to sell it", sell.best(0), 1);
            Check.same("nothing is done by that", Twins.all(sell), before);
        });
        Bounds.promise(23, "NONE: nobody has it, no such one.", () -> {
            for (int far : FAR) {
                Twins.refused("best(" + far + ")", -1, x -> x.best(far));
            }
            Twins.refused("best(1), told", -1, x -> x.best(1));
            Twins.refused("best(3), in the ground", -1, x -> x.best(3));
            Twins.refused("best(4), sold", -1, x -> x.best(4));
            Twins.refused("best(5) of five", -1, x -> x.best(5));
            Check.same("he has it", Twins.one().best(0) >= 0, true);
            Check.same("best(0) of none", new HiddenOrLost().best(0), -1);
            Check.same("best(10) of ten", Check.withField(TextBounds.fullest()).best(10), -1);
        });
    }

    private static void route() {
        Bounds.promise(24, "ROUTE of n (1 to 8) cells from a cell: WORTH;", () -> {
            HiddenOrLost x = Check.withField("field 6 6;");
            for (int n = 1; n <= 8; n++) {
                for (int corner = 0; corner < 4; corner++) {
                    Check.same("route of " + n, x.route(corner % 2 * 5, corner / 2 * 5, n), n);
                }
            }
            Check.same("of four cells", Check.withField("field 2 2;").route(1, 1, 8), 4);
        });
        Bounds.promise(24, "NONE: no such ones.", () -> {
            for (int far : FAR) {
                Twins.refused("route(" + far + ", 0, 1)", -1, x -> x.route(far, 0, 1));
                Twins.refused("route(0, " + far + ", 1)", -1, x -> x.route(0, far, 1));
                Twins.refused("route(0, 0, " + far + ")", -1, x -> x.route(0, 0, far));
            }
            Twins.refused("route(3, 0, 1) of three", -1, x -> x.route(3, 0, 1));
            Twins.refused("route(0, 2, 1) of two", -1, x -> x.route(0, 2, 1));
            Twins.refused("route(0, 0, 0)", -1, x -> x.route(0, 0, 0));
            Twins.refused("route(0, 0, 9)", -1, x -> x.route(0, 0, 9));
        });
    }

    private static void routeAt() {
        Bounds.promise(25, "Its k-th cell (from 0): 6 by Y and X, by the latest route() that was not NONE;", () -> {
            HiddenOrLost x = Check.withField("field 6 6;");
            x.route(5, 5, 1);
            Check.same("the last cell of all", x.routeAt(0), 35);
            x.route(0, 5, 1);
            Check.same("6 by Y", x.routeAt(0), 30);
            x.route(5, 0, 1);
            Check.same("and X", x.routeAt(0), 5);
            HiddenOrLost y = Check.withField("field 2 3;");
            y.route(1, 2, 2);
            Check.same("6 by Y in a field of 2 by 3, too", y.routeAt(0) * 100 + y.routeAt(1), 1307);
            Check.same("refused", y.route(2, 0, 1), -1);
            Check.same("refused", y.route(0, 0, 9), -1);
            Check.same("the one ahead stays", ThoughtBounds.walk(y), "13 7");
            Check.feed(y, "person p;");
            y.field();
            Check.same("behind a new field, too", ThoughtBounds.walk(y), "13 7");
            y.route(0, 0, 1);
            Check.same("a shorter one", ThoughtBounds.walk(y), "0");
        });
        Bounds.promise(25, "NONE: none such, or ahead of any.", () -> {
            HiddenOrLost x = Check.withField("field 6 6;");
            for (int k : new int[] {0, 1, 7, 8, -1, Integer.MIN_VALUE, Integer.MAX_VALUE}) {
                Check.same("ahead of any, routeAt(" + k + ")", x.routeAt(k), -1);
            }
            for (int n : new int[] {8, 1, 3}) {
                x.route(0, 0, n);
                Check.same("the last of " + n, x.routeAt(n - 1) >= 0, true);
                for (int k : new int[] {n, 8, -1, Integer.MIN_VALUE, Integer.MAX_VALUE}) {
                    Check.same("routeAt(" + k + ") of " + n, x.routeAt(k), -1);
                }
            }
            for (int far : FAR) {
                Twins.refused("routeAt(" + far + ")", -1, y -> y.routeAt(far));
            }
            Twins.refused("routeAt(3) of three", -1, y -> y.routeAt(3));
        });
    }

    private static void spread() {
        Bounds.promise(26, "SPREAD.", () -> {
            Check.same("of a new object", new HiddenOrLost().spread(), 0);
            HiddenOrLost x = Check.withField("field 6 6;person p;find a pot 0 0 0 0 0;find b pot 5 5 0 0 0;");
            x.dig(0, 0, 0);
            x.dig(0, 5, 5);
            x.tell(0);
            Check.same("of one", x.spread(), 0);
            x.tell(1);
            Check.same("of two", x.spread(), 10);
            x.undo();
            Check.same("of one again", x.spread(), 0);
        });
    }

    private static void doubt() {
        Bounds.promise(27, "DOUBT by a cell for n (1 to 30) seeds: how many;", () -> {
            for (int n = 1; n <= 30; n++) {
                Check.same("nothing is told: all of " + n, new HiddenOrLost().doubt(3, 3, n, n), n);
            }
            HiddenOrLost x = Check.withField("field 6 6;person p;find a pot 0 0 0 0 0;find b pot 3 0 0 0 0;");
            x.dig(0, 0, 0);
            x.dig(0, 3, 0);
            x.tell(0);
            x.tell(1);
            int one = 0;
            for (int i = 0; i < 30; i++) {
                one += x.doubt(5, 5, 1, Integer.MAX_VALUE - 4 + i);
            }
            Check.same("thirty seeds one by one, wrapping", x.doubt(5, 5, 30, Integer.MAX_VALUE - 4), one);
            Check.same("some, and not all", one > 0 && one < 30, true);
        });
        Bounds.promise(27, "NONE: no such ones.", () -> {
            for (int far : FAR) {
                Twins.refused("doubt(" + far + ", 0, 1, 1)", -1, x -> x.doubt(far, 0, 1, 1));
                Twins.refused("doubt(0, " + far + ", 1, 1)", -1, x -> x.doubt(0, far, 1, 1));
                Twins.refused("doubt(0, 0, " + far + ", 1)", -1, x -> x.doubt(0, 0, far, 1));
            }
            Twins.refused("doubt(3, 0, 1, 1) of three", -1, x -> x.doubt(3, 0, 1, 1));
            Twins.refused("doubt(0, 2, 1, 1) of two", -1, x -> x.doubt(0, 2, 1, 1));
            Twins.refused("doubt(0, 0, 0, 1)", -1, x -> x.doubt(0, 0, 0, 1));
            Twins.refused("doubt(0, 0, 31, 1)", -1, x -> x.doubt(0, 0, 31, 1));
        });
    }

    private static void fears() {
        Bounds.promise(28, "FEARS that fit, as bits.", () -> {
            String six = "fear a 0 500;fear b 0 499;fear c 530 999;fear d 531 999;fear e 501 501;fear g 500 600;";
            HiddenOrLost x = ThoughtBounds.told("find f pot 0 0 0 500 0;" + six);
            Check.same("four of six", x.fears(), 1 + 4 + 16 + 32);
            Check.same("nothing is told: all six", Check.withField(six).fears(), 63);
            Check.same("none", new HiddenOrLost().fears(), 0);
            Check.same("none that fits", ThoughtBounds.told("find f pot 0 0 0 500 0;fear b 0 499;").fears(), 0);
        });
    }

    private static void fear() {
        Bounds.promise(29, "Of a FEAR: 0 FROM, 1 TO.", () -> {
            HiddenOrLost x = Check.withField("fear a 0 999;fear b 1 2;fear c 999 999;fear d 0 0;fear e 7 8;fear g 100 200;");
            int[] due = {0, 999, 1, 2, 999, 999, 0, 0, 7, 8, 100, 200};
            for (int i = 0; i < 12; i++) {
                Check.same("fear(" + i / 2 + ", " + i % 2 + ")", x.fear(i / 2, i % 2), due[i]);
            }
        });
        Bounds.promise(29, "NONE: no such ones.", () -> {
            for (int far : FAR) {
                Twins.refused("fear(" + far + ", 0)", -1, x -> x.fear(far, 0));
                Twins.refused("fear(0, " + far + ")", -1, x -> x.fear(0, far));
            }
            Twins.refused("fear(2, 0) of two", -1, x -> x.fear(2, 0));
            Twins.refused("fear(1, 2)", -1, x -> x.fear(1, 2));
            Check.same("fear(0, 0) of none", new HiddenOrLost().fear(0, 0), -1);
            Check.same("fear(6, 0) of six", Check.withField(TextBounds.fullest()).fear(6, 0), -1);
        });
    }

    private static void pots() {
        Bounds.promise(30, "POTS: both spans in all;", () -> {
            HiddenOrLost x = ThoughtBounds.told("find a coin 0 0 0 10 0;find b coin 0 0 0 13 0;find c coin 0 0 0 100 0;find d coin 0 0 0 104 0;");
            Check.same("3 and 4", x.pots(), 7);
            Check.same("two: nothing and nothing", ThoughtBounds.told("find a coin 0 0 0 0 0;find b coin 0 0 0 999 0;").pots(), 0);
            Check.same("0 | 500 999", ThoughtBounds.told("find a coin 0 0 0 0 0;find b coin 0 0 0 999 0;find c coin 0 0 0 500 0;").pots(), 499);
        });
        Bounds.promise(30, "NONE: fewer than two coins are TOLD.", () -> {
            HiddenOrLost x = ThoughtBounds.had("find a coin 0 0 0 5 0;find b coin 0 0 0 6 0;find c pot 0 0 0 7 0;find d lid 0 0 0 7 0;find e bone 0 0 0 7 0;find f coin 0 0 0 7 0;");
            Check.same("none", x.pots(), -1);
            x.tell(0);
            x.tell(2);
            x.tell(3);
            x.tell(4);
            x.sell(5);
            Check.same("one coin, and others", x.pots(), -1);
            x.tell(1);
            Check.same("two", x.pots(), 0);
            Check.same("of a new object", new HiddenOrLost().pots(), -1);
        });
    }

    private static void early() {
        Bounds.promise(31, "Coins of the earlier one, as bits, by the latest pots() that was not NONE;", () -> {
            HiddenOrLost x = ThoughtBounds.had("find a pot 0 0 0 0 0;find b coin 0 0 0 900 0;find c coin 0 0 0 10 0;find d coin 0 0 0 11 0;");
            x.tell(1);
            x.tell(2);
            x.pots();
            Check.same("one of two", x.early(), 4);
            x.tell(3);
            Check.same("until the next pots()", x.early(), 4);
            x.pots();
            Check.same("two of three", x.early(), 12);
            Check.feed(x, "person p;");
            x.field();
            Check.same("none", x.pots(), -1);
            Check.same("the one ahead stays", x.early(), 12);
            HiddenOrLost ten = ThoughtBounds.told(ThoughtBounds.manyFinds(9, "coin", "3 0") + "find z coin 0 0 0 9 0;");
            ten.pots();
            Check.same("nine of ten", ten.early(), 511);
        });
        Bounds.promise(31, "NONE ahead of any.", () -> {
            HiddenOrLost x = ThoughtBounds.had("find a coin 0 0 0 0 0;find b coin 0 0 0 9 0;");
            Check.same("ahead of any", x.early(), -1);
            x.pots();
            Check.same("ahead of any that was not NONE", x.early(), -1);
            x.tell(0);
            x.pots();
            Check.same("still", x.early(), -1);
            x.tell(1);
            Check.same("told, but not asked", x.early(), -1);
            x.pots();
            Check.same("behind one", x.early(), 1);
        });
    }

    private static void parts() {
        Bounds.promise(32, "PARTS: how far the VALUES are apart.", () -> {
            Check.same("of nothing", new HiddenOrLost().parts(), 0);
            Check.same("of one", ThoughtBounds.told("find a pot 0 0 0 0 99;").parts(), 99);
            Check.same("of two", ThoughtBounds.told("find a pot 0 0 0 0 99;find b pot 0 0 0 0 98;").parts(), 1);
            Check.same("of three", ThoughtBounds.told("find a pot 0 0 0 0 99;find b pot 0 0 0 0 98;find c pot 0 0 0 0 1;").parts(), 0);
            Check.same("of nine of 99", ThoughtBounds.told(ThoughtBounds.manyFinds(9, "pot", "0 99")).parts(), 99);
            Check.same("of ten of 99", ThoughtBounds.told(ThoughtBounds.manyFinds(10, "pot", "0 99")).parts(), 0);
        });
    }

    private static void parted() {
        Bounds.promise(33, "FINDS of the first, as bits, by the latest parts();", () -> {
            HiddenOrLost x = ThoughtBounds.had("find a pot 0 0 0 0 5;find b pot 0 0 0 0 4;find c pot 0 0 0 0 9;");
            x.parts();
            Check.same("of nothing", x.parted(), 0);
            x.tell(1);
            x.tell(0);
            Check.same("until the next parts()", x.parted(), 0);
            x.parts();
            Check.same("of two", x.parted(), 1);
            x.tell(2);
            x.parts();
            Check.same("of three", x.parted(), 3);
            Check.feed(x, "");
            x.field();
            Check.same("behind a new field", x.parted(), 3);
            x.parts();
            Check.same("of nothing again", x.parted(), 0);
        });
        Bounds.promise(33, "NONE ahead of any.", () -> {
            HiddenOrLost x = ThoughtBounds.told("find a pot 0 0 0 0 5;");
            Check.same("ahead of any", x.parted(), -1);
            x.parts();
            Check.same("behind one", x.parted(), 0);
        });
    }

    private static void label() {
        Bounds.promise(34, "LABEL of a FIND: how many bytes;", () -> {
            HiddenOrLost x = Check.withField("person p;person abcdefg;find a pot 0 0 0 0 0;find tuvwxyz pot 1 1 0 999 0;find b pot 0 0 0 10 0;");
            Check.same("a 0 in the ground", x.label(0), 17);
            Check.same("tuvwxyz 999 in the ground", x.label(1), 25);
            Check.same("b 10 in the ground", x.label(2), 18);
            x.dig(1, 1, 1);
            Check.same("tuvwxyz 999 had by abcdefg", x.label(1), 26);
            x.give(1, 0);
            Check.same("tuvwxyz 999 had by p", x.label(1), 20);
            x.tell(1);
            Check.same("tuvwxyz 999 told", x.label(1), 16);
            x.dig(0, 0, 0);
            x.sell(0);
            Check.same("a 0 sold", x.label(0), 8);
            Check.same("j 0 in the ground", Check.withField(TextBounds.fullest()).label(9), 17);
        });
        Bounds.promise(34, "NONE: no such one.", () -> {
            for (int far : FAR) {
                Twins.refused("label(" + far + ")", -1, x -> x.label(far));
            }
            Twins.refused("label(5) of five", -1, x -> x.label(5));
            Check.same("label(0) of none", new HiddenOrLost().label(0), -1);
            Check.same("label(10) of ten", Check.withField(TextBounds.fullest()).label(10), -1);
        });
    }

    private static void byteAt() {
        Bounds.promise(35, "Byte i of the latest LABEL;", () -> {
            HiddenOrLost x = Check.withField("find ab pot 0 0 0 90 0;find c pot 0 0 0 1 0;");
            Check.same("a label", x.label(0), 19);
            String due = "ab 90 in the ground";
            for (int i = 0; i < 19; i++) {
                Check.same("byteAt(" + i + ")", x.byteAt(i), due.charAt(i));
            }
            x.label(1);
            Check.same("the latest: its last byte", x.byteAt(16), 'd');
            Check.same("none behind it of the longer one ahead", x.byteAt(17), -1);
            x.label(2);
            Check.same("no such find: the one ahead stays", x.byteAt(0), 'c');
            Check.feed(x, "");
            x.field();
            Check.same("behind a new field, too", x.byteAt(2), '1');
        });
        Bounds.promise(35, "NONE: none such.", () -> {
            Check.same("ahead of any", new HiddenOrLost().byteAt(0), -1);
            for (int far : FAR) {
                Twins.refused("byteAt(" + far + ")", -1, x -> x.byteAt(far));
                Check.same("ahead of any", new HiddenOrLost().byteAt(far), -1);
            }
            HiddenOrLost x = Twins.one();
            int n = x.label(0);
            Check.same("the last", x.byteAt(n - 1), 'n');
            Check.same("one behind it", x.byteAt(n), -1);
        });
    }

    private static final String ODDS = "field 2 2;person p;find a coin 0 0 0 0 0;find b coin 1 1 9 0 0;find c pot 1 0 1 0 0;";

    private static void odds() {
        Bounds.promise(36, "Of n (1 to 30) seeds x, x and 1, .. by how many a FIND is TOLD behind 20 NIGHTS from now on with it;", () -> {
            for (int seed : new int[] {0, 77, Integer.MAX_VALUE - 9, Integer.MIN_VALUE}) {
                int[] told = new int[3];
                for (int n = 1; n <= 30; n++) {
                    HiddenOrLost y = Check.withField(ODDS);
                    y.nights(20, seed + n - 1);
                    for (int f = 0; f < 3; f++) {
                        told[f] += y.find(f, 6) == 2 ? 1 : 0;
                        Check.same("odds(" + f + ", " + n + ", " + seed + ")", Check.withField(ODDS).odds(f, n, seed), told[f]);
                    }
                }
                Check.same("some, and not all", told[0] > 0 && told[0] < 30, true);
                Check.same("nine deep in twenty nights", told[1] < told[0], true);
            }
            HiddenOrLost x = Check.withField(ODDS);
            x.nights(30, 5);
            x.plough(3);
            int due = 0;
            for (int seed = 1; seed <= 30; seed++) {
                x.nights(20, seed);
                due += x.find(1, 6) == 2 ? 1 : 0;
                x.undo();
            }
            String before = Twins.all(x);
            Check.same("from now on", x.odds(1, 30, 1), due);
            Check.same("all stays as it is", Twins.all(x), before);
            isTwenty();
            HiddenOrLost told = ThoughtBounds.told("find a coin 0 0 0 0 0;");
            Check.same("told already", told.odds(0, 30, 1), 30);
            HiddenOrLost sold = ThoughtBounds.had("find a coin 0 0 0 0 0;");
            sold.sell(0);
            Check.same("sold already", sold.odds(0, 30, 1), 0);
        });
    }

    /** By a seed of which the find is told in the 20th night, and by one of which it is in the 21st. */
    private static void isTwenty() {
        boolean twentieth = false;
        boolean behind = false;
        for (int seed = 0; seed < 3000 && !(twentieth && behind); seed++) {
            int[] told = new int[3];
            for (int i = 0; i < 3; i++) {
                HiddenOrLost x = Check.withField("field 6 6;person p;find a coin 1 1 0 0 0;");
                x.nights(19 + i, seed);
                told[i] = x.find(0, 6) == 2 ? 1 : 0;
            }
            if (told[0] != told[2]) {
                twentieth |= told[0] != told[1];
                behind |= told[1] != told[2];
                Check.same("odds by seed " + seed, Check.withField("field 6 6;person p;find a coin 1 1 0 0 0;").odds(0, 1, seed), told[1]);
            }
        }
        Check.same("both were among the seeds", twentieth && behind, true);
    }

    private static void oddsOfNone() {
        Bounds.promise(36, "NONE: no such ones, no PERSONS.", () -> {
            for (int far : FAR) {
                Twins.refused("odds(" + far + ", 1, 1)", -1, x -> x.odds(far, 1, 1));
                Twins.refused("odds(0, " + far + ", 1)", -1, x -> x.odds(0, far, 1));
            }
            Twins.refused("odds(5, 1, 1) of five", -1, x -> x.odds(5, 1, 1));
            Twins.refused("odds(0, 0, 1)", -1, x -> x.odds(0, 0, 1));
            Twins.refused("odds(0, 31, 1)", -1, x -> x.odds(0, 31, 1));
            HiddenOrLost none = Check.withField("find a coin 0 0 0 0 0;");
            Check.same("no persons", none.odds(0, 1, 1), -1);
            Check.same("no persons, thirty seeds", none.odds(0, 30, 1), -1);
            Check.same("odds(0, 1, 1) of none", Check.withField("person p;").odds(0, 1, 1), -1);
            HiddenOrLost over = Check.withField("field 2 2;person p;find a coin 0 0 0 0 0;");
            for (int i = 0; i < 14; i++) {
                over.nights(30, i);
            }
            Check.same("all nights are over: as it is", over.odds(0, 30, 1), over.find(0, 6) == 2 ? 30 : 0);
        });
    }
}
