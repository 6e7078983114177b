import java.math.BigInteger;

/** The sentences under 'Terms' that tell what may be thought: beliefs, gains, worth, routes, doubt, fears, pots, parts, labels. */
final class ThoughtBounds {
    private ThoughtBounds() {
    }

    static void run() {
        beliefs();
        sure();
        gains();
        best();
        worth();
        routes();
        spread();
        doubt();
        fears();
        pots();
        parts();
        labels();
        fractions();
        newField();
        throwing();
    }

    /** A field with one person, who has all finds of the LINES, which lie in the first cell, 0 DEEP. */
    static HiddenOrLost had(String lines) {
        HiddenOrLost x = Check.withField("person p;" + lines);
        x.dig(0, 0, 0);
        Check.same("all are had", x.now(2), (1 << x.count(1)) - 1);
        return x;
    }

    static HiddenOrLost told(String lines) {
        HiddenOrLost x = had(lines);
        for (int f = 0; f < x.count(1); f++) {
            Check.same("tell", x.tell(f), 0);
        }
        return x;
    }

    static String manyFinds(int n, String kind, String rest) {
        StringBuilder text = new StringBuilder();
        for (int i = 0; i < n; i++) {
            text.append("find f").append((char) ('a' + i)).append(' ').append(kind).append(" 0 0 0 ").append(rest).append(';');
        }
        return text.toString();
    }

    private static void fraction(String what, long above, long below, BigInteger dueAbove, BigInteger dueBelow) {
        BigInteger divisor = dueAbove.gcd(dueBelow);
        Check.same(what + ", above", BigInteger.valueOf(above).toString(), dueAbove.divide(divisor).toString());
        Check.same(what + ", below", BigInteger.valueOf(below).toString(), dueBelow.divide(divisor).toString());
    }

    private static void belief(HiddenOrLost x, int r, long above, long below) {
        fraction("belief(" + r + ")", x.belief(r, 0), x.belief(r, 1), BigInteger.valueOf(above), BigInteger.valueOf(below));
    }

    private static void beliefs() {
        Bounds.terms("BELIEF in a READING by what is TOLD: its prior by what its hints tell for the KINDS of all FINDS that are TOLD"
            + " (each N of 12, one by the other), by the same of all READINGS in all", () -> {
            HiddenOrLost x = had("find a coin 0 0 0 0 0;find b lid 0 0 0 0 0;find c coin 0 0 0 0 0;find d pot 0 0 0 0 0;"
                + "prior hidden 2;prior lost 3;hint hidden coin 3;hint lost coin 1;hint buried coin 12;hint lost lid 0;hint hidden lid 1;");
            belief(x, 0, 2, 6);
            belief(x, 1, 3, 6);
            belief(x, 2, 1, 6);
            x.tell(0);
            belief(x, 0, 6, 21);
            belief(x, 1, 3, 21);
            belief(x, 2, 12, 21);
            x.sell(3);
            belief(x, 2, 12, 21);
            x.tell(2);
            belief(x, 0, 18, 165);
            belief(x, 1, 3, 165);
            belief(x, 2, 144, 165);
            x.tell(1);
            belief(x, 0, 18, 18 + 6 * 144);
            belief(x, 1, 0, 1);
            greatest();
        });
        Bounds.terms("(all of these 0: each is as likely as another one).", () -> {
            HiddenOrLost x = told(manyFinds(1, "coin", "0 9") + "prior lost 99;hint hidden coin 0;hint lost coin 0;hint buried coin 0;");
            for (int r = 0; r < 3; r++) {
                belief(x, r, 1, 3);
            }
            HiddenOrLost two = told("find a coin 0 0 0 0 0;find b pot 0 0 0 0 0;prior buried 99;"
                + "hint hidden coin 0;hint lost pot 0;hint buried pot 0;");
            for (int r = 0; r < 3; r++) {
                belief(two, r, 1, 3);
            }
            HiddenOrLost one = told(manyFinds(1, "coin", "0 9") + "prior lost 99;hint hidden coin 0;hint lost coin 0;hint buried coin 1;");
            belief(one, 0, 0, 1);
            belief(one, 1, 0, 1);
            belief(one, 2, 1, 1);
        });
    }

    /** The most of all: ten coins told, priors of 99, hints of 12 and 11. */
    private static void greatest() {
        HiddenOrLost x = told(manyFinds(10, "coin", "0 99") + "prior hidden 99;prior lost 99;prior buried 98;hint hidden coin 12;hint lost coin 11;hint buried coin 12;"
            + "gets hidden king 12;gets lost king 11;gets buried king 12;");
        BigInteger hidden = BigInteger.valueOf(12).pow(10).multiply(BigInteger.valueOf(99));
        BigInteger lost = BigInteger.valueOf(11).pow(10).multiply(BigInteger.valueOf(99));
        BigInteger buried = BigInteger.valueOf(12).pow(10).multiply(BigInteger.valueOf(98));
        BigInteger all = hidden.add(lost).add(buried);
        BigInteger twelve = BigInteger.valueOf(12);
        fraction("the greatest belief(0)", x.belief(0, 0), x.belief(0, 1), hidden, all);
        fraction("the greatest belief(1)", x.belief(1, 0), x.belief(1, 1), lost, all);
        fraction("the greatest belief(2)", x.belief(2, 0), x.belief(2, 1), buried, all);
        fraction("sure by coins", x.sure(0, 0), x.sure(0, 1), hidden.multiply(twelve).add(lost), all.multiply(twelve));
        BigInteger king = hidden.multiply(twelve).add(lost.multiply(BigInteger.valueOf(11))).add(buried.multiply(twelve));
        fraction("the king's gains", x.gains(0, 0), x.gains(0, 1), king.multiply(BigInteger.valueOf(990)), all.multiply(twelve));
    }

    private static void sure(HiddenOrLost x, int k, long above, long below) {
        fraction("sure(" + k + ")", x.sure(k, 0), x.sure(k, 1), BigInteger.valueOf(above), BigInteger.valueOf(below));
    }

    private static void sure() {
        Bounds.terms("SURE by a KIND: how likely one guesses the READING right, if one is told whether a FIND of that KIND comes next"
            + " (by each READING as its hint tells), and guesses the likeliest then.", () -> {
            // Of 36 parts: by coins one reading alone comes, by pots always, by lids never, by bones as chance has it.
            HiddenOrLost x = Check.withField("hint hidden coin 0;hint lost coin 12;hint buried coin 0;hint hidden pot 12;hint lost pot 12;hint buried pot 12;"
                + "hint hidden lid 0;hint lost lid 0;hint buried lid 0;hint hidden bone 2;hint lost bone 7;hint buried bone 11;");
            sure(x, 0, 24, 36);
            sure(x, 1, 12, 36);
            sure(x, 2, 12, 36);
            sure(x, 3, 11 + 10, 36);
            HiddenOrLost y = Check.withField("prior hidden 5;prior lost 3;prior buried 2;hint hidden coin 4;hint lost coin 7;hint buried coin 12;");
            // It comes: 20, 21, 24 of 120; it does not: 40, 15, 0.
            sure(y, 0, 24 + 40, 120);
            HiddenOrLost sureOne = told("find a coin 0 0 0 0 0;hint hidden coin 0;hint lost coin 0;hint buried coin 12;");
            for (int k = 0; k < 4; k++) {
                sure(sureOne, k, 1, 1);
            }
        });
    }

    private static void gains(HiddenOrLost x, int role, long above, long below) {
        fraction("gains(" + role + ")", x.gains(role, 0), x.gains(role, 1), BigInteger.valueOf(above), BigInteger.valueOf(below));
    }

    private static void gains() {
        Bounds.terms("GAINS of a ROLE: VALUE of all that is TOLD by what it gets by each READING (N of 12), by BELIEFS.", () -> {
            HiddenOrLost x = had("find a coin 0 0 0 0 99;find b coin 0 0 0 0 1;find c pot 0 0 0 0 50;prior hidden 2;prior lost 3;"
                + "gets hidden king 12;gets lost king 0;gets buried king 6;gets hidden finder 0;gets lost finder 0;gets buried finder 0;"
                + "gets hidden owner 12;gets lost owner 12;gets buried owner 12;");
            gains(x, 2, 0, 1);
            x.tell(0);
            x.sell(2);
            gains(x, 0, 99 * (2 * 12 + 6), 6 * 12);
            gains(x, 1, 0, 1);
            gains(x, 2, 99, 1);
            x.tell(1);
            gains(x, 0, 100 * 30, 72);
            gains(x, 2, 100, 1);
            gains(told(manyFinds(10, "coin", "0 99") + "gets hidden king 12;gets lost king 12;gets buried king 12;"), 0, 990, 1);
        });
    }

    private static int best(int value, int risk, int finderGets, String more) {
        HiddenOrLost x = had("find a coin 0 0 0 0 " + value + ";risk " + risk + ";gets hidden finder " + finderGets + ";gets lost finder "
            + finderGets + ";gets buried finder " + finderGets + ";" + more);
        return x.best(0);
    }

    private static void best() {
        Bounds.terms("A FINDER had BEST tell a FIND that he has, if its VALUE by what a finder gets (by BELIEFS with that FIND told, too)"
            + " is as much, at least, as half its VALUE (not cut) by 12 less 'risk' of 12, less its VALUE by 'risk' of 12; else sell it.", () -> {
            for (int value : new int[] {1, 2, 50, 99}) {
                for (int risk = 0; risk <= 12; risk++) {
                    for (int gets = 0; gets <= 12; gets++) {
                        // Of 24 parts of the value: twice what he gets against 12 less the risk, less twice the risk.
                        int due = 2 * gets >= 12 - risk - 2 * risk ? 0 : 1;
                        Check.same("best of value " + value + " by risk " + risk + " and " + gets + " of 12", best(value, risk, gets, ""), due);
                    }
                }
                Check.same("as much: 6 of 12 against the half", best(value, 0, 6, ""), 0);
                Check.same("less: 5 of 12 against the half, not cut", best(value, 0, 5, ""), 1);
                Check.same("as much: nothing against nothing", best(value, 4, 0, ""), 0);
                Check.same("less: nothing against an eighth", best(value, 3, 0, ""), 1);
            }
            Check.same("of no value", best(0, 0, 0, ""), 0);
            // Ahead of it being told 'hidden' is as likely as the others; with it told, hidden alone is left.
            String none = "gets lost finder 0;gets buried finder 0;risk 0;find a coin 0 0 0 0 9;";
            Check.same("with that find told: it is hidden", had("gets hidden finder 6;" + none + "hint lost coin 0;hint buried coin 0;").best(0), 0);
            Check.same("without a hint it is a third of that", had("gets hidden finder 6;" + none).best(0), 1);
            Check.same("with that find told: it is not hidden", had("gets hidden finder 12;" + none + "hint hidden coin 0;").best(0), 1);
            Check.same("with that find told all are 0: a third each", had("gets hidden finder 12;" + none
                + "hint hidden coin 0;hint lost coin 0;hint buried coin 0;").best(0), 1);
            Check.same("a third of 12 is as much as 4", had("gets hidden finder 12;gets lost finder 0;gets buried finder 0;risk 2;find a coin 0 0 0 0 9;"
                + "hint hidden coin 0;hint lost coin 0;hint buried coin 0;").best(0), 0);
        });
    }

    private static void worth() {
        Bounds.terms("WORTH of a cell: 12 by 1 and its steps (X and Y) to the nearest place where a FIND lay last that is not in the GROUND"
            + " (cut; there is none: 1); 0, if it is DUG 10 deep.", () -> {
            HiddenOrLost x = Check.withField("field 6 6;person p;find a coin 0 0 0 0 0;find b coin 5 5 9 0 0;find c coin 3 0 0 0 0;");
            for (int cell = 0; cell < 36; cell++) {
                Check.same("none is out of the ground", x.cell(cell % 6, cell / 6, 2), 1);
            }
            x.dig(0, 0, 0);
            int[] due = {12, 6, 4, 3, 2, 2, 1, 1, 1, 1, 1};
            for (int cell = 0; cell < 36; cell++) {
                Check.same("steps " + (cell % 6 + cell / 6), x.cell(cell % 6, cell / 6, 2), due[cell % 6 + cell / 6]);
            }
            x.dig(0, 3, 0);
            Check.same("the nearest of two", x.cell(2, 0, 2), 6);
            Check.same("the other one nearer", x.cell(1, 0, 2), 6);
            x.tell(2);
            x.sell(0);
            Check.same("told or sold it lay there last all the same", x.cell(2, 0, 2) * 100 + x.cell(0, 0, 2), 612);
            for (int i = 0; i < 8; i++) {
                x.dig(0, 0, 0);
            }
            Check.same("dug nine deep", x.cell(0, 0, 2), 12);
            x.dig(0, 0, 0);
            Check.same("dug ten deep", x.cell(0, 0, 2), 0);
            Check.same("beside it", x.cell(0, 1, 2), 6);
            HiddenOrLost y = had("find a coin 0 0 0 0 0;");
            y.lay(0, 2, 2);
            Check.same("laid back: there is none", y.cell(2, 2, 2) * 10 + y.cell(0, 0, 2), 11);
            y.dig(0, 2, 2);
            Check.same("where it lay last", y.cell(2, 2, 2) * 100 + y.cell(0, 0, 2), 1202);
        });
    }

    static String walk(HiddenOrLost x) {
        StringBuilder text = new StringBuilder();
        for (int k = 0; k < 8 && x.routeAt(k) >= 0; k++) {
            text.append(k > 0 ? " " : "").append(x.routeAt(k));
        }
        return text.toString();
    }

    private static void routes() {
        Bounds.terms("ROUTE of n cells from a cell: each next to the one ahead (by X or Y), the first that cell: the most WORTH in all", () -> {
            HiddenOrLost x = Check.withField("field 3 3;person p;find a coin 1 1 0 0 0;");
            x.dig(0, 1, 1);
            // 4 6 4 / 6 12 6 / 4 6 4.
            Check.same("one cell", x.route(2, 2, 1), 4);
            Check.same("that cell", walk(x), "14");
            Check.same("no step across, none that stays", x.route(2, 2, 2), 4 + 6);
            Check.same("one of the two beside it", walk(x), "14 8");
            Check.same("three", x.route(2, 2, 3), 4 + 6 + 12);
            Check.same("through the midst", x.route(1, 0, 3), 6 + 12 + 6);
            Check.same("eight", x.route(1, 1, 8), 12 + 6 + 4 + 6 + 4 + 6 + 4 + 6);
            HiddenOrLost y = Check.withField("field 6 2;person p;find a coin 5 0 0 0 0;");
            y.dig(0, 5, 0);
            Check.same("the last cell of a row is not next to the first of the next one", y.route(0, 1, 2), 1 + 2);
            Check.same("it stays at that side", walk(y), "6 0");
            HiddenOrLost z = Check.withField("field 6 2;person p;find a coin 0 1 0 0 0;");
            z.dig(0, 0, 1);
            Check.same("nor the other way", z.route(5, 0, 2), 1 + 2);
            Check.same("down, not about", walk(z), "5 4");
            Check.feed(z, "field 2 2;");
            z.field();
            Check.same("what was worth much in a wider field is none of this one", z.route(1, 1, 8), 4);
            Check.same("the least of its own", walk(z), "7 1 0 1 0 1 0 6");
            HiddenOrLost tall = Check.withField("field 2 6;person p;find a coin 1 2 0 0 0;");
            tall.dig(0, 1, 2);
            Check.same("down", tall.route(1, 1, 2), 6 + 12);
            Check.feed(tall, "field 2 2;");
            tall.field();
            Check.same("nor what was in a higher one", tall.route(1, 1, 8), 4);
            Check.same("the least of its own", walk(tall), "7 1 0 1 0 1 0 6");
            Check.same("far along the row", y.route(0, 0, 6), 2 + 2 + 3 + 4 + 6 + 12);
            Check.same("along it", walk(y), "0 1 2 3 4 5");
        });
        Bounds.terms("(a cell counts once, it may come again);", () -> {
            HiddenOrLost x = Check.withField("field 2 2;");
            Check.same("five of four cells", x.route(1, 1, 5), 4);
            Check.same("eight of four cells", x.route(1, 1, 8), 4);
            HiddenOrLost y = Check.withField("field 2 2;person p;find a coin 0 0 0 0 0;");
            for (int i = 0; i < 10; i++) {
                y.dig(0, 0, 0);
            }
            Check.same("a cell of 0 counts 0", y.route(0, 0, 1), 0);
            Check.same("over that cell there is nothing", y.route(1, 0, 2), 6 + 4);
            Check.same("so the other way", walk(y), "1 7");
            y.plough(1);
            Check.same("12, and not again", y.route(0, 0, 3), 12 + 6 + 4);
            Check.same("three others", y.route(0, 0, 8), 12 + 6 + 4 + 6);
        });
        Bounds.terms("of like ones the first: cell by cell the least (6 by Y and X).", () -> {
            HiddenOrLost x = Check.withField("field 3 3;");
            Check.same("two of worth 1", x.route(1, 1, 2), 2);
            Check.same("upwards", walk(x), "7 1");
            Check.same("three", x.route(1, 1, 3), 3);
            Check.same("upwards, then to the left", walk(x), "7 1 0");
            Check.same("eight", x.route(2, 2, 8), 8);
            Check.same("eight, the least of all", walk(x), "14 8 2 1 0 6 7 13");
            HiddenOrLost y = Check.withField("field 2 2;");
            Check.same("back and forth as long as it can", y.route(0, 0, 8), 4);
            Check.same("the least", walk(y), "0 1 0 1 0 1 7 6");
            Check.same("from the last", y.route(1, 1, 2), 2);
            Check.same("up ahead of left", walk(y), "7 1");
            Check.same("from below", y.route(0, 1, 2), 2);
            Check.same("up ahead of right", walk(y), "6 0");
            Check.same("from the right", y.route(1, 0, 2), 2);
            Check.same("left ahead of down", walk(y), "1 0");
            Check.same("from the first", y.route(0, 0, 2), 2);
            Check.same("right ahead of down", walk(y), "0 1");
        });
    }

    /** All finds of a field of 6 by 6 are found in its first cell, laid where two digits tell X and Y, found there, and told. */
    private static HiddenOrLost toldAt(int... places) {
        HiddenOrLost x = Check.withField("field 6 6;person p;" + manyFinds(places.length, "pot", "0 0"));
        x.dig(0, 0, 0);
        for (int f = 0; f < places.length; f++) {
            if (places[f] != 0) {
                x.lay(f, places[f] / 10, places[f] % 10);
                x.dig(0, places[f] / 10, places[f] % 10);
            }
            Check.same("tell", x.tell(f), 0);
        }
        return x;
    }

    private static void spread() {
        Bounds.terms("SPREAD: steps between all two FINDS that are TOLD (where they lay last), in all.", () -> {
            Check.same("of none", toldAt().spread(), 0);
            Check.same("of one", toldAt(55).spread(), 0);
            Check.same("of two in one cell", toldAt(55, 55).spread(), 0);
            Check.same("of two", toldAt(0, 55).spread(), 10);
            Check.same("by X alone", toldAt(3, 53).spread(), 5);
            Check.same("by Y alone", toldAt(30, 35).spread(), 5);
            Check.same("of three: 3, 7 and 10", toldAt(0, 12, 55).spread(), 20);
            Check.same("five and five in corners: 25 by 10", toldAt(0, 0, 0, 0, 0, 55, 55, 55, 55, 55).spread(), 250);
            HiddenOrLost x = had("find a pot 0 0 0 0 0;find b pot 0 0 0 0 0;find c pot 0 0 0 0 0;find d pot 0 0 0 0 0;find e pot 0 0 0 0 0;");
            x.lay(1, 3, 3);
            x.dig(0, 3, 3);
            x.lay(2, 3, 0);
            x.lay(3, 3, 1);
            x.dig(0, 3, 1);
            x.sell(3);
            x.tell(0);
            Check.same("had, in the ground, sold: they do not count", x.spread(), 0);
            x.tell(1);
            Check.same("two are told", x.spread(), 6);
        });
    }

    private static void doubt() {
        Bounds.terms("DOUBT by a cell: of n seeds x, x and 1, .. by how many SPREAD would be as much as now at least, if all that is TOLD had lain"
            + " in that cell, 0 DEEP, and been PLOUGHED three times with it (its draws go on; nothing else in the GROUND).", () -> {
            boolean equal = false;
            for (int steps = 0; steps <= 7; steps++) {
                HiddenOrLost x = toldAt(0, Math.min(steps, 5) * 10 + Math.max(0, steps - 5));
                Check.same("spread", x.spread(), steps);
                for (int seed : new int[] {0, 77, -3, Integer.MIN_VALUE}) {
                    for (int place : new int[] {0, 55, 23}) {
                        int got = Draws.ploughedSpread(seed, 2, 6, place / 10, place % 10);
                        equal |= got == steps && steps > 0;
                        Check.same("doubt at " + place + " by " + seed + ", " + got + " against " + steps, x.doubt(place / 10, place % 10, 1, seed), got >= steps ? 1 : 0);
                    }
                }
            }
            Check.same("as much was among them", equal, true);
            HiddenOrLost x = toldAt(0, 11, 2);
            for (int seed : new int[] {5, Integer.MAX_VALUE, Integer.MAX_VALUE - 10}) {
                int due = 0;
                for (int i = 0; i < 30; i++) {
                    due += Draws.ploughedSpread(seed + i, 3, 6, 4, 1) >= 6 ? 1 : 0;
                }
                Check.same("thirty seeds from " + seed, x.doubt(4, 1, 30, seed), due);
            }
            Check.same("nothing is told: as much by all", toldAt().doubt(0, 0, 30, 1), 30);
            Check.same("one: as much by all", toldAt(55).doubt(0, 0, 30, 1), 30);
            HiddenOrLost ten = toldAt(0, 0, 0, 0, 0, 0, 0, 0, 0, 0);
            Check.same("ten in one cell: as much by all", ten.doubt(5, 5, 30, 1), 30);
            Check.same("ten far apart: 250 steps by none", toldAt(0, 0, 0, 0, 0, 55, 55, 55, 55, 55).doubt(2, 2, 30, 1), 0);
            Check.same("too far for three ploughs: 10 steps", toldAt(0, 55).doubt(0, 0, 30, 1), 0);
            nothingElse();
        });
    }

    private static void nothingElse() {
        String others = "find a pot 2 2 0 0 0;find b pot 0 0 0 0 0;find c pot 2 2 1 0 0;find d pot 1 0 0 0 0;find e pot 2 2 2 0 0;";
        HiddenOrLost x = Check.withField("field 6 6;person p;" + others);
        x.dig(0, 0, 0);
        x.dig(0, 1, 0);
        x.tell(1);
        x.tell(3);
        int due = 0;
        for (int i = 0; i < 30; i++) {
            due += Draws.ploughedSpread(300 + i, 2, 6, 2, 2) >= 1 ? 1 : 0;
        }
        String before = Twins.all(x);
        Check.same("what lies in the ground takes no draws", x.doubt(2, 2, 30, 300), due);
        Check.same("all stays as it is", Twins.all(x), before);
    }

    private static int fearsOf(String from, int... years) {
        StringBuilder text = new StringBuilder("fear w " + from + ";");
        for (int i = 0; i < years.length; i++) {
            text.append("find f").append((char) ('a' + i)).append(" pot 0 0 0 ").append(years[i]).append(" 0;");
        }
        return told(text.toString()).fears();
    }

    private static void fears() {
        Bounds.terms("FEARS that fit: some YEAR of it is none ahead of the latest YEAR of all that is TOLD, and at most 30 behind it"
            + " (nothing is TOLD: all).", () -> {
            Check.same("to the year ahead", fearsOf("0 499", 500), 0);
            Check.same("to that year", fearsOf("0 500", 500), 1);
            Check.same("that year alone", fearsOf("500 500", 500), 1);
            Check.same("the year behind alone", fearsOf("501 501", 500), 1);
            Check.same("30 behind alone", fearsOf("530 530", 500), 1);
            Check.same("from 30 behind", fearsOf("530 999", 500), 1);
            Check.same("from 31 behind", fearsOf("531 999", 500), 0);
            Check.same("from ahead to far behind", fearsOf("0 999", 500), 1);
            Check.same("by the latest of two, the first later", fearsOf("0 499", 500, 400), 0);
            Check.same("by the latest of two, the second later", fearsOf("0 499", 400, 500), 0);
            Check.same("the earlier one does not count", fearsOf("400 499", 499, 400), 1);
            Check.same("the latest of ten, the last", fearsOf("0 99", 1, 2, 3, 4, 5, 6, 7, 8, 9, 100), 0);
            Check.same("the latest of ten, the first", fearsOf("0 100", 100, 2, 3, 4, 5, 6, 7, 8, 9, 10), 1);
            Check.same("the year 0", fearsOf("0 0", 0), 1);
            Check.same("30 behind 0", fearsOf("30 30", 0), 1);
            Check.same("31 behind 0", fearsOf("31 31", 0), 0);
            Check.same("the year 999", fearsOf("999 999", 999), 1);
            Check.same("998 by 999", fearsOf("998 998", 999), 0);
            Check.same("999 by 969", fearsOf("999 999", 969), 1);
            Check.same("999 by 968", fearsOf("999 999", 968), 0);
            HiddenOrLost none = had("find a pot 0 0 0 500 0;fear w 0 0;fear x 999 999;fear y 3 4;fear z 5 5;fear v 6 6;fear u 7 7;");
            Check.same("nothing is told: all", none.fears(), 63);
            none.sell(0);
            Check.same("sold is not told: all", none.fears(), 63);
            Check.same("no fears", new HiddenOrLost().fears(), 0);
        });
    }

    private static HiddenOrLost coins(int... years) {
        StringBuilder text = new StringBuilder();
        for (int i = 0; i < years.length; i++) {
            text.append("find f").append((char) ('a' + i)).append(" coin 0 0 0 ").append(years[i]).append(" 0;");
        }
        return told(text.toString());
    }

    private static void pots(String what, int spans, int early, HiddenOrLost x) {
        Check.same(what, x.pots(), spans);
        Check.same(what + ", the earlier ones", x.early(), early);
    }

    private static void pots() {
        Bounds.terms("POTS: coins that are TOLD, by YEAR (of like ones by number), cut in two behind one of them,"
            + " so that both spans (the latest less the earliest YEAR of each) are the least in all;", () -> {
            pots("two", 0, 2, coins(999, 0));
            pots("two of a year", 0, 1, coins(5, 5));
            pots("three: 0 | 500 999", 499, 1, coins(0, 500, 999));
            pots("three: 0 499 | 999", 499, 3, coins(0, 499, 999));
            pots("by year: 1 2 | 8 9", 2, 2 + 8, coins(9, 1, 8, 2));
            pots("the last cut: 1 2 3 | 900", 2, 7, coins(1, 2, 3, 900));
            pots("the first cut: 1 | 900 901 902", 2, 1, coins(1, 900, 901, 902));
            pots("ten", 8, 31, coins(10, 11, 12, 13, 14, 500, 501, 502, 503, 504));
            pots("of like ones by number: 7 | 7 is no cut as good as 7 7 | 90", 0, 6, coins(90, 7, 7));
            HiddenOrLost x = had("find a pot 0 0 0 5 0;find b coin 0 0 0 10 0;find c coin 0 0 0 30 0;find d coin 0 0 0 20 0;find e lid 0 0 0 11 0;find g coin 0 0 0 21 0;");
            for (int f : new int[] {0, 1, 2, 4, 5}) {
                x.tell(f);
            }
            pots("coins alone, and told: 10 | 21 30", 9, 2, x);
        });
        Bounds.terms("of like ones the fewest ahead.", () -> {
            pots("1 | 2 3", 1, 1, coins(1, 2, 3));
            pots("all of a year", 0, 1, coins(4, 4, 4, 4));
            pots("of a year, the least number first", 0, 1, coins(4, 4));
            pots("0 | 10 20 30", 20, 2, coins(10, 0, 20, 30));
            pots("one of ten", 0, 1, coins(7, 7, 7, 7, 7, 7, 7, 7, 7, 7));
        });
    }

    private static void parts(String what, int apart, int first, int... values) {
        StringBuilder text = new StringBuilder();
        for (int i = 0; i < values.length; i++) {
            text.append("find f").append((char) ('a' + i)).append(" pot 0 0 0 0 ").append(values[i]).append(';');
        }
        HiddenOrLost x = told(text.toString());
        Check.same(what, x.parts(), apart);
        Check.same(what + ", the first", x.parted(), first);
    }

    private static void parts() {
        Bounds.terms("PARTS for two: all that is TOLD to one or the other, so that the VALUES of both are least apart;", () -> {
            parts("nothing", 0, 0);
            parts("one", 99, 0, 99);
            parts("one of no value", 0, 0, 0);
            parts("two", 98, 1, 1, 99);
            parts("8 7 | 6 5 4", 0, 3, 8, 7, 6, 5, 4);
            parts("99 | nine of 11", 0, 511, 11, 11, 11, 11, 11, 11, 11, 11, 11, 99);
            parts("ten of 99", 0, 31, 99, 99, 99, 99, 99, 99, 99, 99, 99, 99);
            HiddenOrLost x = had("find a pot 0 0 0 0 9;find b pot 0 0 0 0 5;find c pot 0 0 0 0 4;find d pot 0 0 0 0 99;");
            x.tell(1);
            x.tell(2);
            x.sell(3);
            Check.same("what is told alone", x.parts(), 1);
            Check.same("of it", x.parted(), 2);
        });
        Bounds.terms("of like ones the least FINDS of the first as bits.", () -> {
            parts("one goes to the other", 5, 0, 5);
            parts("two of a value", 0, 1, 5, 5);
            parts("bits 3, not 4", 0, 3, 2, 3, 5);
            parts("bits 3, not 5 or 6", 0, 3, 7, 7, 7, 7);
            parts("what is of no value goes to the other", 0, 2, 0, 5, 5, 0);
            parts("all of no value", 0, 0, 0, 0, 0, 0, 0, 0, 0, 0, 0, 0);
        });
    }

    private static void labels() {
        Bounds.terms("LABEL of a FIND: its NAME, a blank, YEAR as digits, then ' in the ground', ' had by ' and the NAME of who has it, ' told', ' sold'.", () -> {
            HiddenOrLost x = Check.withField("person z;person abcdefg;find a pot 0 0 0 0 0;find tuvwxyz pot 0 0 0 999 0;find b pot 0 0 0 9 0;find c pot 0 0 0 10 0;"
                + "find d pot 0 0 0 99 0;find e pot 0 0 0 100 0;find g pot 0 0 0 007 0;find h pot 0 0 0 101 0;");
            Check.same("the year 0", Check.label(x, 0), "a 0 in the ground");
            Check.same("the longest name, the last year", Check.label(x, 1), "tuvwxyz 999 in the ground");
            Check.same("the year 9", Check.label(x, 2), "b 9 in the ground");
            Check.same("the year 10", Check.label(x, 3), "c 10 in the ground");
            Check.same("the year 99", Check.label(x, 4), "d 99 in the ground");
            Check.same("the year 100", Check.label(x, 5), "e 100 in the ground");
            Check.same("the year told as 007", Check.label(x, 6), "g 7 in the ground");
            Check.same("the year 101", Check.label(x, 7), "h 101 in the ground");
            x.dig(0, 0, 0);
            Check.same("had by the first", Check.label(x, 0), "a 0 had by z");
            x.give(1, 1);
            Check.same("the longest", Check.label(x, 1), "tuvwxyz 999 had by abcdefg");
            x.tell(1);
            Check.same("told", Check.label(x, 1), "tuvwxyz 999 told");
            x.sell(0);
            Check.same("sold", Check.label(x, 0), "a 0 sold");
            x.lay(2, 3, 3);
            Check.same("laid back", Check.label(x, 2), "b 9 in the ground");
        });
    }

    private static void fractions() {
        Bounds.terms("All fractions are told by two numbers: 0 above, 1 below, in least terms (what is below 0: a number below 0 above).", () -> {
            HiddenOrLost x = told("find a coin 0 0 0 0 40;prior hidden 99;prior lost 66;prior buried 33;hint buried coin 0;gets hidden king 0;gets lost king 0;"
                + "gets hidden owner 12;gets lost owner 12;");
            Check.same("99 by 165, above", x.belief(0, 0), 3);
            Check.same("99 by 165, below", x.belief(0, 1), 5);
            Check.same("0, above", x.belief(2, 0), 0);
            Check.same("0, below", x.belief(2, 1), 1);
            Check.same("no gains, above", x.gains(0, 0), 0);
            Check.same("no gains, below", x.gains(0, 1), 1);
            Check.same("40 by a third, above", x.gains(1, 0), 40);
            Check.same("40 by a third, below", x.gains(1, 1), 3);
            Check.same("all of 40, above", x.gains(2, 0), 40);
            Check.same("all of 40, below", x.gains(2, 1), 1);
            Check.same("sure by pots, above", x.sure(1, 0), 3);
            Check.same("sure by pots, below", x.sure(1, 1), 5);
        });
    }

    private static void newField() {
        Bounds.terms("A new FIELD: NIGHT 0, all lies in the GROUND, nothing DUG, no SENTENCE; nothing can be undone (what other calls told last stays).", () -> {
            HiddenOrLost x = Twins.one();
            String last = Twins.last(x);
            Check.feed(x, "field 3 2;person cy;find rod pot 2 1 3 5 6;");
            Check.same("field", x.field(), 3);
            Check.same("night", x.now(0), 0);
            Check.same("all in the ground", x.now(1), 1);
            Check.same("none had, told, sold", x.now(2) + x.now(3) + x.now(4), 0);
            Check.same("where it is told", x.find(0, 1) * 100 + x.find(0, 2) * 10 + x.find(0, 3), 213);
            Check.same("had by nobody so far", x.find(0, 7), -1);
            for (int cell = 0; cell < 6; cell++) {
                Check.same("dug", x.cell(cell % 3, cell / 3, 0), 0);
            }
            Check.same("coin, digs, ploughs", x.now(5) + x.now(6) + x.now(8), 0);
            Check.same("what he dug, found", x.person(0, 2) + x.person(0, 3), 0);
            Check.same("no sentence", x.said(-1), -1);
            Check.same("nothing can be undone", x.undo(), -1);
            Check.same("what other calls told last", Twins.last(x), last);
            Check.same("what is kept", x.restore(0), true);
        });
    }

    private static void throwing() {
        Bounds.terms("A call that throws changes nothing.", () -> {
            Twins.throwsNoSuch("find(5, 0)", x -> x.find(5, 0));
            Twins.throwsNoSuch("find(0, 8)", x -> x.find(0, 8));
            Twins.throwsNoSuch("belief(3, 0)", x -> x.belief(3, 0));
            Twins.throwsNoSuch("sure(4, 0)", x -> x.sure(4, 0));
            Twins.throwsNoSuch("gains(3, 0)", x -> x.gains(3, 0));
        });
    }
}
