/** The sentences under 'Terms' that tell what is done: digging, telling, selling, laying, giving, the plough and nights. */
final class ActBounds {
    private static final int[] SEEDS = {0, 1, -1, Integer.MIN_VALUE, Integer.MAX_VALUE, 2, 999, 123456789, -987654321};
    private static final int[] STEP_X = {0, 1, -1, 0, 0};
    private static final int[] STEP_Y = {0, 0, 0, 1, -1};

    private ActBounds() {
    }

    static void run() {
        whereFindsAre();
        dugSoDeep();
        digging();
        nobodyHasIt();
        telling();
        selling();
        laying();
        giving();
        draws();
        ploughed();
        ploughedWays();
        notDugAnyMore();
        nights();
        nightDigs();
        nightFinds();
    }

    private static void whereFindsAre() {
        Bounds.terms("A FIND lies in the GROUND of a cell, so DEEP; or a PERSON has it; or it is TOLD; or it is SOLD.", () -> {
            HiddenOrLost x = Check.withField("person p;find a pot 0 0 0 0 0;find b pot 0 0 0 0 0;find c pot 0 0 0 0 0;find d pot 3 2 9 0 0;");
            isOneOf(x, 15, 0, 0, 0);
            Check.same("in its cell", x.cell(3, 2, 1), 8);
            Check.same("so deep", x.find(3, 3), 9);
            x.dig(0, 0, 0);
            isOneOf(x, 8, 7, 0, 0);
            Check.same("in no cell", x.cell(0, 0, 1), 0);
            x.tell(0);
            isOneOf(x, 8, 6, 1, 0);
            x.sell(1);
            isOneOf(x, 8, 4, 1, 2);
            x.lay(2, 1, 1);
            isOneOf(x, 12, 0, 1, 2);
        });
    }

    private static void isOneOf(HiddenOrLost x, int ground, int had, int told, int sold) {
        int[] bits = {ground, had, told, sold};
        for (int sort = 0; sort < 4; sort++) {
            Check.same("now(" + (sort + 1) + ")", x.now(sort + 1), bits[sort]);
            for (int f = 0; f < x.count(1); f++) {
                Check.same("find " + f + " is of sort " + sort, x.find(f, 6) == sort, (bits[sort] >> f & 1) == 1);
            }
        }
    }

    private static void dugSoDeep() {
        Bounds.terms("A cell is DUG so deep (0 at first; 10 at most).", () -> {
            HiddenOrLost x = Check.withField("field 2 2;person p;");
            for (int cell = 0; cell < 4; cell++) {
                Check.same("at first", x.cell(cell % 2, cell / 2, 0), 0);
            }
            for (int i = 1; i <= 10; i++) {
                Check.same("dig", x.dig(0, 1, 0), 0);
                Check.same("dug", x.cell(1, 0, 0), i);
            }
            for (int i = 0; i < 3; i++) {
                Check.same("dig once more", x.dig(0, 1, 0), -2);
                Check.same("dug no deeper", x.cell(1, 0, 0), 10);
            }
            Check.same("the others are not", x.cell(0, 0, 0) + x.cell(0, 1, 0) + x.cell(1, 1, 0), 0);
        });
    }

    private static void digging() {
        Bounds.terms("To DIG a cell: why not: 1 it is DUG 10 deep:", () -> {
            HiddenOrLost x = Check.withField("person p;");
            for (int i = 0; i < 9; i++) {
                x.dig(0, 3, 3);
            }
            Check.same("nine deep: he can", x.dig(0, 3, 3), 0);
            Check.same("ten deep: he can't", x.dig(0, 3, 3), -2);
            Check.same("the digs", x.person(0, 2), 10);
            Check.same("by a book: why not", Check.book(x, 0, "p digs 3 3;") * 10 + x.told(0), 1);
            Check.same("beside it: he can", x.dig(0, 2, 3), 0);
        });
        Bounds.terms("it is DUG 1 deeper, and of what lies in the GROUND there all that lies less DEEP than that is FOUND: he has it.", () -> {
            StringBuilder text = new StringBuilder("person o;person p;");
            for (int deep = 0; deep < 10; deep++) {
                text.append("find ").append((char) ('a' + deep)).append(" pot 1 2 ").append(deep).append(" 0 0;");
            }
            HiddenOrLost x = Check.withField(text.toString());
            for (int deep = 0; deep < 10; deep++) {
                Check.same("what lies as deep as it was dug is there still", x.cell(1, 2, 1), 1023 >> deep << deep);
                Check.same("found " + deep + " deep", x.dig(deep % 2, 1, 2), 1);
                Check.same("somebody has it", x.find(deep, 6), 1);
                Check.same("who", x.find(deep, 7), deep % 2);
            }
            HiddenOrLost y = Check.withField("person p;find a pot 1 1 0 0 0;find b pot 0 1 0 0 0;find c pot 2 1 0 0 0;find d pot 1 0 0 0 0;find e pot 1 2 0 0 0;"
                + "find f pot 1 1 0 0 0;find g pot 1 1 1 0 0;");
            Check.same("two there, none beside it", y.dig(0, 1, 1), 2);
            y.tell(0);
            y.sell(5);
            Check.same("what is told or sold is not found again", y.dig(0, 1, 1), 1);
            Check.same("nor what he has", y.dig(0, 1, 1), 0);
            y.lay(6, 1, 1);
            Check.same("what is laid there is", y.dig(0, 1, 1), 1);
        });
    }

    /** Finds 0 to 3: in the ground, had by the first person, told, sold. */
    private static HiddenOrLost ofEachSort() {
        HiddenOrLost x = Check.withField("person o;person p;find a pot 3 3 9 0 20;find b pot 0 0 0 0 21;find c pot 0 0 0 0 22;find d pot 0 0 0 0 23;");
        x.dig(0, 0, 0);
        x.tell(2);
        x.sell(3);
        return x;
    }

    private static void nobodyHasIt() {
        Bounds.terms("To TELL, SELL, LAY, GIVE a FIND: 1 nobody has it.", () -> {
            for (int f : new int[] {0, 2, 3}) {
                HiddenOrLost x = ofEachSort();
                String before = Twins.state(x);
                Check.same("tell", x.tell(f), 1);
                Check.same("sell", x.sell(f), 1);
                Check.same("lay", x.lay(f, 1, 1), 1);
                Check.same("give", x.give(f, 1), 1);
                Check.same("give to who had it", x.give(f, 0), 1);
                Check.same("all is as it was", Twins.state(x), before);
            }
            Check.same("tell what he has", ofEachSort().tell(1), 0);
            Check.same("sell what he has", ofEachSort().sell(1), 0);
            Check.same("lay what he has", ofEachSort().lay(1, 1, 1), 0);
            Check.same("give what he has", ofEachSort().give(1, 1), 0);
        });
    }

    private static void isForGood(HiddenOrLost x, int f, int sort) {
        x.tell(f);
        x.sell(f);
        x.lay(f, 3, 3);
        x.give(f, 1);
        for (int i = 0; i < 10; i++) {
            x.dig(1, 0, 0);
        }
        x.plough(Draws.seedFor(5, 1, 3, 2));
        x.nights(30, 3);
        x.nights(30, 4);
        Check.same("of that sort still", x.find(f, 6), sort);
        Check.same("where it lay last", x.find(f, 1) + x.find(f, 2) + x.find(f, 3), 0);
        Check.same("who had it last", x.find(f, 7), 0);
    }

    private static void telling() {
        Bounds.terms("TOLD: it is so for good.", () -> {
            isForGood(ofEachSort(), 2, 2);
            HiddenOrLost x = ofEachSort();
            Check.same("telling brings no coin", x.now(5), 11);
            x.tell(1);
            Check.same("none at all", x.now(5), 11);
        });
    }

    private static void selling() {
        Bounds.terms("SOLD: who has it has half its VALUE (cut) more coin, it is so for good.", () -> {
            isForGood(ofEachSort(), 3, 3);
            int[] values = {0, 1, 2, 3, 50, 97, 98, 99};
            StringBuilder text = new StringBuilder("person o;person p;");
            for (int i = 0; i < values.length; i++) {
                text.append("find ").append((char) ('a' + i)).append(" pot 0 0 0 0 ").append(values[i]).append(';');
            }
            HiddenOrLost x = Check.withField(text.toString());
            x.dig(0, 0, 0);
            int[] halves = {0, 0, 1, 1, 25, 48, 49, 49};
            int[] coin = {0, 0};
            for (int f = 0; f < values.length; f++) {
                int who = f % 2;
                if (who == 1) {
                    x.give(f, 1);
                }
                Check.same("sell", x.sell(f), 0);
                coin[who] += halves[f];
                Check.same("coin of who had it, a value of " + values[f], x.person(who, 0), coin[who]);
                Check.same("coin of the other", x.person(1 - who, 0), coin[1 - who]);
            }
        });
    }

    private static void laying() {
        Bounds.terms("To LAY it in a cell: it lies in its GROUND, 0 DEEP.", () -> {
            int[][] corners = {{0, 0}, {5, 0}, {0, 5}, {5, 5}, {2, 3}};
            for (int[] c : corners) {
                HiddenOrLost x = Check.withField("field 6 6;person p;find a pot 4 4 9 0 0;");
                for (int i = 0; i < 10; i++) {
                    x.dig(0, 4, 4);
                }
                Check.same("it lay nine deep", x.find(0, 3), 9);
                Check.same("lay", x.lay(0, c[0], c[1]), 0);
                Check.same("in that cell", x.cell(c[0], c[1], 1), 1);
                Check.same("X", x.find(0, 1), c[0]);
                Check.same("Y", x.find(0, 2), c[1]);
                Check.same("0 deep", x.find(0, 3), 0);
                Check.same("in the ground", x.find(0, 6), 0);
                Check.same("nobody has it", x.person(0, 1), 0);
                Check.same("found by one dig", x.dig(0, c[0], c[1]), 1);
                Check.same("laid where it was found", x.lay(0, c[0], c[1]), 0);
            }
            HiddenOrLost deep = Check.withField("person p;find a pot 0 0 9 0 0;");
            for (int i = 0; i < 10; i++) {
                deep.dig(0, 0, 0);
            }
            Check.same("laid where it is dug ten deep", deep.lay(0, 0, 0), 0);
            Check.same("it lies there", deep.cell(0, 0, 1), 1);
            Check.same("the cell stays dug", deep.cell(0, 0, 0), 10);
        });
    }

    private static void giving() {
        Bounds.terms("To GIVE it to a PERSON: 2 he has it: he has it.", () -> {
            HiddenOrLost x = ofEachSort();
            Check.same("to himself", x.give(1, 0), 2);
            Check.same("he has it still", x.person(0, 1), 2);
            Check.same("to the other", x.give(1, 1), 0);
            Check.same("he has it", x.person(1, 1), 2);
            Check.same("the first no more", x.person(0, 1), 0);
            Check.same("who", x.find(1, 7), 1);
            Check.same("to himself now", x.give(1, 1), 2);
            Check.same("and back", x.give(1, 0), 0);
            Check.same("who", x.find(1, 7), 0);
        });
    }

    private static void draws() {
        // Worked out from the sentence: the person of six and the cell of 36 of a first and of a second night.
        int[][] due = {{0, 30, 3, 4}, {2, 20, 0, 11}, {1, 12, 3, 33}, {2, 34, 1, 8}, {5, 8, 5, 1}, {5, 11, 1, 18}, {1, 22, 4, 23}, {0, 14, 3, 29}, {2, 19, 4, 1}};
        Bounds.terms("(for each draw of n x becomes x * 1103515245 + 12345, an int, wrapping; the draw is (x >>> 8) % n):", () -> {
            for (int i = 0; i < SEEDS.length; i++) {
                HiddenOrLost x = Check.withField("field 6 6;person a;person b;person c;person d;person e;person f;");
                Check.same("nights(2, " + SEEDS[i] + ")", x.nights(2, SEEDS[i]), 2);
                for (int p = 0; p < 6; p++) {
                    int digs = (p == due[i][0] ? 1 : 0) + (p == due[i][2] ? 1 : 0);
                    Check.same("digs of person " + p + " by " + SEEDS[i], x.person(p, 2), digs);
                }
                Check.same("the first cell by " + SEEDS[i], x.cell(due[i][1] % 6, due[i][1] / 6, 0), 1);
                Check.same("the second cell by " + SEEDS[i], x.cell(due[i][3] % 6, due[i][3] / 6, 0), 1);
                Draws draws = new Draws(SEEDS[i]);
                Check.same("this test's draws are those", draws.of(6) * 36 + draws.of(36), due[i][0] * 36 + due[i][1]);
            }
        });
        // The draws of 5 and 3 of a first and of a second find.
        int[][] ways = {{3, 0, 0, 1}, {4, 2, 1, 2}, {2, 0, 4, 0}, {1, 1, 2, 2}, {4, 2, 2, 1}, {1, 2, 3, 0}};
        Bounds.terms("To PLOUGH with a seed x", () -> {
            for (int i = 0; i < ways.length; i++) {
                HiddenOrLost x = Check.withField("field 6 6;find a pot 2 2 0 0 0;find b pot 3 4 0 0 0;");
                x.plough(SEEDS[i]);
                Check.same("X of the first by " + SEEDS[i], x.find(0, 1), 2 + STEP_X[ways[i][0]]);
                Check.same("Y of the first", x.find(0, 2), 2 + STEP_Y[ways[i][0]]);
                Check.same("how deep the first", x.find(0, 3), ways[i][1]);
                Check.same("X of the second", x.find(1, 1), 3 + STEP_X[ways[i][2]]);
                Check.same("Y of the second", x.find(1, 2), 4 + STEP_Y[ways[i][2]]);
                Check.same("how deep the second", x.find(1, 3), ways[i][3]);
            }
        });
    }

    private static void ploughed() {
        Bounds.terms("FIND by FIND that lies in the GROUND less than 3 DEEP:", () -> {
            int seed = Draws.seedFor(5, 1, 3, 1);
            for (int deep = 0; deep < 10; deep++) {
                HiddenOrLost x = Check.withField("find a pot 1 1 " + deep + " 0 0;");
                Check.same("plough what lies " + deep + " deep", x.plough(seed), deep < 3 ? 1 : 0);
                Check.same("X", x.find(0, 1), deep < 3 ? 2 : 1);
                Check.same("how deep", x.find(0, 3), deep < 3 ? 1 : deep);
            }
            // Each of the others would take a draw, if it were ploughed, too.
            HiddenOrLost x = Check.withField("person p;find a pot 1 1 3 0 0;find b pot 0 0 0 0 0;find c pot 0 0 0 0 0;find d pot 0 0 0 0 0;"
                + "find e pot 2 2 2 0 0;find f pot 2 2 9 0 0;find g pot 1 2 0 0 0;");
            x.dig(0, 0, 0);
            x.tell(2);
            x.sell(3);
            Check.same("two of seven", x.plough(Draws.seedFor(5, 1, 3, 2, 5, 2, 3, 1)), 2);
            int[] places = {11, 0, 0, 0, 32, 22, 2};
            int[] deeps = {3, 0, 0, 0, 2, 9, 1};
            for (int f = 0; f < 7; f++) {
                Check.same("place of find " + f, x.find(f, 1) * 10 + x.find(f, 2), places[f]);
                Check.same("depth of find " + f, x.find(f, 3), deeps[f]);
            }
        });
    }

    private static void ploughedWays() {
        Bounds.terms("a draw of 5: 0 it stays, 1 one X more, 2 one less, 3 one Y more, 4 one less (beyond the field: it stays), then a draw of 3: so DEEP it lies.", () -> {
            for (int way = 0; way < 5; way++) {
                for (int deep = 0; deep < 3; deep++) {
                    int seed = Draws.seedFor(5, way, 3, deep);
                    isPloughed(seed, 3, 2, way, deep, way != 0);
                    isPloughed(seed, 5, 2, way, deep, way > 1);
                    isPloughed(seed, 0, 2, way, deep, way == 1 || way > 2);
                    isPloughed(seed, 3, 4, way, deep, way != 0 && way != 3);
                    isPloughed(seed, 3, 0, way, deep, way != 0 && way != 4);
                    isPloughed(seed, 0, 0, way, deep, way == 1 || way == 3);
                    isPloughed(seed, 5, 4, way, deep, way == 2 || way == 4);
                }
            }
        });
    }

    /** One find in a field of 6 by 5 goes that way, or stays. */
    private static void isPloughed(int seed, int column, int row, int way, int deep, boolean goes) {
        HiddenOrLost x = Check.withField("field 6 5;find a pot " + column + " " + row + " 1 0 0;");
        String from = " from " + column + " " + row + " by way " + way;
        Check.same("plough" + from, x.plough(seed), goes ? 1 : 0);
        Check.same("X" + from, x.find(0, 1), column + (goes ? STEP_X[way] : 0));
        Check.same("Y" + from, x.find(0, 2), row + (goes ? STEP_Y[way] : 0));
        Check.same("how deep" + from, x.find(0, 3), deep);
    }

    private static void notDugAnyMore() {
        Bounds.terms("Then no cell is DUG any more.", () -> {
            HiddenOrLost x = Check.withField("field 6 6;person p;find a pot 5 5 9 0 0;");
            for (int cell = 0; cell < 36; cell++) {
                x.dig(0, cell % 6, cell / 6);
            }
            for (int i = 0; i < 9; i++) {
                x.dig(0, 0, 0);
            }
            Check.same("ten deep", x.cell(0, 0, 0), 10);
            x.plough(1);
            for (int cell = 0; cell < 36; cell++) {
                Check.same("dug", x.cell(cell % 6, cell / 6, 0), 0);
            }
            Check.same("he can dig there again", x.dig(0, 0, 0), 0);
            for (int i = 0; i < 9; i++) {
                Check.same("what lies nine deep needs ten anew", x.dig(0, 5, 5), 0);
            }
            Check.same("the tenth", x.dig(0, 5, 5), 1);
        });
    }

    private static void nights() {
        Bounds.terms("A NIGHT with a seed (NIGHTS one behind the other go on with it;", () -> {
            // Each night without finds takes two draws, so a seed for what is behind the first night goes on like it.
            HiddenOrLost x = Check.withField("field 3 2;person p;person q;");
            x.nights(3, Draws.seedFor(2, 1, 6, 5, 2, 0, 6, 1, 2, 1, 6, 0));
            Check.same("q in the first and third", x.person(1, 2), 2);
            Check.same("p in the second", x.person(0, 2), 1);
            Check.same("cells 5, 1 and 0", x.cell(2, 1, 0) * 100 + x.cell(1, 0, 0) * 10 + x.cell(0, 0, 0), 111);
        });
        Bounds.terms("0 to 399; 400: all are over):", () -> {
            HiddenOrLost x = Check.withField("field 6 6;person p;person q;");
            Check.same("the first", x.now(0), 0);
            for (int i = 0; i < 13; i++) {
                Check.same("thirty", x.nights(30, i), 30);
            }
            Check.same("nine more", x.nights(9, 1), 9);
            Check.same("the last one", x.now(0), 399);
            int digs = x.now(6);
            Check.same("it goes by", x.nights(30, 1), 1);
            Check.same("all are over", x.now(0), 400);
            Check.same("one dig at most", x.now(6) - digs <= 1, true);
            digs = x.now(6);
            Check.same("none goes by", x.nights(1, 1), 0);
            Check.same("nor of thirty", x.nights(30, 1), 0);
            Check.same("all are over still", x.now(0), 400);
            Check.same("nobody digs", x.now(6), digs);
        });
    }

    private static void nightDigs() {
        Bounds.terms("a draw of all PERSONS, a draw of all cells (row by row): he DIGS there, if he can;", () -> {
            for (int wide = 2; wide <= 6; wide += 2) {
                for (int high = 3; high <= 6; high += 3) {
                    int cells = wide * high;
                    for (int cell : new int[] {0, 1, wide - 1, wide, cells - 1}) {
                        HiddenOrLost x = Check.withField("field " + wide + " " + high + ";person a;person b;person c;");
                        x.nights(1, Draws.seedFor(3, 2, cells, cell));
                        Check.same("the last person", x.person(2, 2), 1);
                        Check.same("row by row", x.cell(cell % wide, cell / wide, 0), 1);
                    }
                }
            }
            HiddenOrLost x = Check.withField("field 2 2;person p;find a pot 1 1 9 0 0;");
            for (int i = 0; i < 10; i++) {
                x.dig(0, 0, 1);
            }
            int seed = Draws.seedFor(1, 0, 4, 2);
            Check.same("he can't: it goes by all the same", x.nights(1, seed), 1);
            Check.same("no dig", x.person(0, 2), 10);
            Check.same("no deeper", x.cell(0, 1, 0), 10);
            Check.same("elsewhere he can", x.nights(1, Draws.seedFor(1, 0, 4, 3)), 1);
            Check.same("one dig", x.person(0, 2), 11);
        });
    }

    private static void nightFinds() {
        Bounds.terms("then FIND by FIND that somebody has: a draw of 4: 0 it is TOLD, 1 it is SOLD.", () -> {
            for (int way = 0; way < 4; way++) {
                HiddenOrLost x = Check.withField("field 2 2;person p;find a pot 1 0 0 0 9;");
                x.nights(1, Draws.seedFor(1, 0, 4, 1, 4, way));
                int[] due = {2, 3, 1, 1};
                Check.same("found that night, drawn " + way, x.find(0, 6), due[way]);
                Check.same("coin", x.person(0, 0), way == 1 ? 4 : 0);
                Check.same("found", x.person(0, 3), 1);
            }
            // Find 0 is told, 1 sold, 2 in the ground: none of them takes a draw. 3 and 4 are had.
            for (int way = 0; way < 16; way++) {
                HiddenOrLost x = Check.withField("field 2 2;person p;person q;find a pot 0 0 0 0 8;find b pot 0 0 0 0 8;find c pot 1 1 9 0 8;"
                    + "find d pot 0 0 0 0 30;find e pot 0 0 0 0 50;");
                x.dig(1, 0, 0);
                x.tell(0);
                x.sell(1);
                x.give(4, 0);
                x.nights(1, Draws.seedFor(2, 0, 4, 2, 4, way / 4, 4, way % 4));
                int[] due = {2, 3, 1, 1};
                Check.same("the first of them", x.find(3, 6), due[way / 4]);
                Check.same("the second", x.find(4, 6), due[way % 4]);
                Check.same("told, sold and in the ground they stay", x.find(0, 6) * 100 + x.find(1, 6) * 10 + x.find(2, 6), 230);
                Check.same("coin of who has it", x.person(0, 0), way % 4 == 1 ? 25 : 0);
                Check.same("coin of the other", x.person(1, 0), 4 + (way / 4 == 1 ? 15 : 0));
            }
        });
    }
}
