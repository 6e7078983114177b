/** Promises 24 to 27 and 36: routes, spread, doubt, odds. */
public final class WalkTest {
    private WalkTest() {
    }

    public static void main(String[] args) {
        refusedRoutes();
        routes();
        spread();
        refusedDoubt();
        doubt();
        odds();
        Check.close();
    }

    private static String walk(HiddenOrLost x) {
        StringBuilder text = new StringBuilder();
        for (int k = 0; x.routeAt(k) >= 0; k++) {
            text.append(k > 0 ? " " : "").append(x.routeAt(k));
        }
        return text.toString();
    }

    private static void refusedRoutes() {
        HiddenOrLost x = Check.withField("field 3 2;");
        int[][] bad = {{-1, 0, 1}, {3, 0, 1}, {0, -1, 1}, {0, 2, 1}, {0, 0, 0}, {0, 0, 9}, {0, 0, -1}};
        for (int[] b : bad) {
            Check.same("route(" + b[0] + ", " + b[1] + ", " + b[2] + ")", x.route(b[0], b[1], b[2]), -1);
        }
        Check.same("ahead of any", x.routeAt(0), -1);
        Check.same("one cell", x.route(2, 1, 1), 1);
        Check.same("it", walk(x), "8");
        Check.same("refused", x.route(0, 0, 9), -1);
        Check.same("it stays", walk(x), "8");
        Check.same("routeAt(-1)", x.routeAt(-1), -1);
        Check.same("routeAt(1)", x.routeAt(1), -1);
        Check.same("all six, and back", x.route(0, 0, 8), 6);
        Check.same("the first of them", walk(x), "0 1 0 1 2 8 7 6");
    }

    private static void routes() {
        HiddenOrLost x = Check.withField("field 6 6;person a;find b coin 5 5 0 0 0;find c coin 0 0 0 0 0;");
        Check.same("eight cells of worth 1", x.route(5, 0, 8), 8);
        Check.same("the first of them", walk(x), "5 4 3 2 1 0 6 7");
        x.dig(0, 5, 5);
        Check.same("worth there", x.cell(5, 5, 2), 12);
        Check.same("worth ten steps off", x.cell(0, 0, 2), 1);
        Check.same("three from there", x.route(5, 5, 3), 12 + 6 + 4);
        Check.same("the first of them", walk(x), "35 29 23");
        Check.same("round the corner", x.route(5, 4, 4), 6 + 12 + 6 + 4);
        Check.same("the least of like ones", walk(x), "29 28 34 35");
        x.dig(0, 0, 0);
        for (int i = 1; i < 10; i++) {
            x.dig(0, 0, 0);
        }
        Check.same("dug ten deep", x.cell(0, 0, 2), 0);
        Check.same("it counts 0", x.route(0, 0, 2), 6);
        Check.same("the least", walk(x), "0 1");
        Check.feed(x, "");
        x.field();
        Check.same("a new field leaves it", walk(x), "0 1");
    }

    /** Finds lie where two digits tell x and y, and all are told. */
    private static HiddenOrLost told(String size, int... places) {
        StringBuilder text = new StringBuilder(size).append("person p;");
        for (int i = 0; i < places.length; i++) {
            text.append("find f").append((char) ('a' + i)).append(" pot ").append(places[i] / 10).append(' ').append(places[i] % 10).append(" 0 0 0;");
        }
        HiddenOrLost x = Check.withField(text.toString());
        for (int i = 0; i < places.length; i++) {
            x.dig(0, places[i] / 10, places[i] % 10);
        }
        for (int i = 0; i < places.length; i++) {
            Check.same("tell", x.tell(i), 0);
        }
        return x;
    }

    private static void spread() {
        Check.same("nothing told", new HiddenOrLost().spread(), 0);
        Check.same("one told", told("", 33).spread(), 0);
        Check.same("two", told("", 0, 33).spread(), 6);
        Check.same("three", told("", 0, 33, 12).spread(), 6 + 3 + 3);
        Check.same("four far off", told("field 6 6;", 0, 55, 50, 5).spread(), 40);
        HiddenOrLost x = Check.withField("person p;find a coin 0 0 0 0 0;find b coin 3 3 0 0 0;");
        x.dig(0, 0, 0);
        x.dig(0, 3, 3);
        x.tell(0);
        Check.same("what is had does not count", x.spread(), 0);
    }

    private static void refusedDoubt() {
        HiddenOrLost x = told("field 2 3;", 0, 12);
        int[][] bad = {{2, 0, 1}, {0, 3, 1}, {-1, 0, 1}, {0, -1, 1}, {0, 0, 0}, {0, 0, 31}, {0, 0, -1}};
        for (int[] b : bad) {
            Check.same("doubt(" + b[0] + ", " + b[1] + ", " + b[2] + ", 1)", x.doubt(b[0], b[1], b[2], 1), -1);
        }
        Check.same("nothing told: all", new HiddenOrLost().doubt(3, 3, 30, -5), 30);
        Check.same("one seed", new HiddenOrLost().doubt(0, 0, 1, 1), 1);
    }

    private static void doubt() {
        for (int start : new int[] {0, 11, 23, 33}) {
            HiddenOrLost x = told("", 0, 12, 20);
            for (int seed : new int[] {1, 100, -20, Integer.MAX_VALUE - 3}) {
                int due = 0;
                for (int i = 0; i < 30; i++) {
                    due += Draws.ploughedSpread(seed + i, 3, 4, start / 10, start % 10) >= x.spread() ? 1 : 0;
                }
                Check.same("doubt from " + start + " by " + seed, x.doubt(start / 10, start % 10, 30, seed), due);
            }
            Check.same("nothing is ploughed by that", x.now(8), 0);
            Check.same("nothing is moved by that", x.find(1, 1) * 10 + x.find(1, 2), 12);
        }
        HiddenOrLost y = told("field 6 6;", 0, 55);
        Check.same("too far for the plough", y.doubt(0, 0, 30, 1), 0);
        doubtAmongOthers();
    }

    /** What is not told takes no draws and has no part in the spread. */
    private static void doubtAmongOthers() {
        HiddenOrLost x = Check.withField("person p;find a pot 3 3 0 0 0;find b pot 0 0 0 0 0;find c pot 3 0 0 0 0;find d pot 1 1 0 0 0;find e pot 3 3 1 0 0;");
        x.dig(0, 0, 0);
        x.dig(0, 1, 1);
        x.dig(0, 3, 0);
        x.tell(1);
        x.tell(3);
        for (int seed = -100; seed < 900; seed += 100) {
            int due = 0;
            for (int i = 0; i < 30; i++) {
                due += Draws.ploughedSpread(seed + i, 2, 4, 1, 2) >= 2 ? 1 : 0;
            }
            Check.same("doubt among others by " + seed, x.doubt(1, 2, 30, seed), due);
        }
    }

    private static void odds() {
        HiddenOrLost none = Check.withField("find a coin 0 0 0 0 0;");
        Check.same("no persons", none.odds(0, 1, 1), -1);
        HiddenOrLost x = Check.withField("field 2 2;person p;find a coin 0 0 0 0 0;find b coin 1 1 9 0 0;");
        Check.same("odds(2, 1, 1)", x.odds(2, 1, 1), -1);
        Check.same("odds(-1, 1, 1)", x.odds(-1, 1, 1), -1);
        Check.same("odds(0, 0, 1)", x.odds(0, 0, 1), -1);
        Check.same("odds(0, 31, 1)", x.odds(0, 31, 1), -1);
        for (int seed : new int[] {0, 500, -9, Integer.MAX_VALUE}) {
            int due = 0;
            for (int i = 0; i < 30; i++) {
                HiddenOrLost y = Check.withField("field 2 2;person p;find a coin 0 0 0 0 0;find b coin 1 1 9 0 0;");
                y.nights(20, seed + i);
                due += y.find(0, 6) == 2 ? 1 : 0;
            }
            Check.same("odds by " + seed, x.odds(0, 30, seed), due);
        }
        Check.same("all stays as it is", x.now(0) + x.now(6), 0);
        Check.same("nothing can be undone", x.undo(), -1);
        x.dig(0, 0, 0);
        x.tell(0);
        Check.same("told already", x.odds(0, 30, 1), 30);
        Check.same("by one seed", x.odds(0, 1, 1), 1);
        for (int i = 0; i < 14; i++) {
            x.nights(30, 4);
        }
        Check.same("no nights are left: it stays told", x.odds(0, 17, 1), 17);
        twentyNights();
        lastOdds();
    }

    private static void twentyNights() {
        HiddenOrLost x = Check.withField("field 3 3;person p;person q;find a coin 0 0 0 0 0;find b coin 2 2 1 0 0;find c coin 1 1 0 0 0;find d pot 1 0 0 0 0;");
        for (int f = 0; f < 4; f++) {
            int due = 0;
            for (int seed = 40; seed < 70; seed++) {
                x.nights(20, seed);
                due += x.find(f, 6) == 2 ? 1 : 0;
                x.undo();
            }
            Check.same("odds of " + f, x.odds(f, 30, 40), due);
        }
    }

    /** Three nights are left: odds() has those alone. */
    private static void lastOdds() {
        HiddenOrLost x = Check.withField("field 6 6;person p;find a coin 0 0 9 0 0;find b coin 5 5 9 0 0;");
        for (int i = 0; i < 13; i++) {
            x.nights(30, 1000 + i);
        }
        x.nights(7, 5);
        Check.same("night", x.now(0), 397);
        for (int f = 0; f < 2; f++) {
            int due = 0;
            for (int seed = 1; seed <= 30; seed++) {
                Check.same("three", x.nights(30, seed), 3);
                due += x.find(f, 6) == 2 ? 1 : 0;
                x.undo();
            }
            Check.same("odds of three nights", x.odds(f, 30, 1), due);
        }
    }
}
