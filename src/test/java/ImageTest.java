/** Promises 41 and 42: what is kept and restored. */
public final class ImageTest {
    private static final String FIELD = "field 3 2;person ann;person bob;find ring lid 1 1 0 400 9;find urn pot 0 0 1 410 21;fear war 0 9;risk 7;"
        + "prior lost 5;hint lost lid 12;gets lost finder 12;";

    private ImageTest() {
    }

    public static void main(String[] args) {
        refused();
        restored();
        twoPlaces();
        whatStays();
        Check.close();
    }

    private static void refused() {
        HiddenOrLost x = new HiddenOrLost();
        for (int k : new int[] {-1, 2, Integer.MAX_VALUE, Integer.MIN_VALUE}) {
            Check.same("image(" + k + ")", x.image(k), false);
            Check.same("restore(" + k + ")", x.restore(k), false);
        }
        Check.same("nothing kept in 0", x.restore(0), false);
        Check.same("nothing kept in 1", x.restore(1), false);
        Check.same("keep in 1", x.image(1), true);
        Check.same("nothing kept in 0 still", x.restore(0), false);
        Check.same("restore 1", x.restore(1), true);
        Check.same("again", x.restore(1), true);
    }

    private static void restored() {
        HiddenOrLost x = Check.withField(FIELD);
        x.dig(0, 1, 1);
        x.tell(0);
        x.plough(4);
        x.nights(2, 5);
        Check.sentence(x, "told and year < 405 or of bob");
        int[] before = all(x);
        Check.same("image", x.image(0), true);
        Check.same("acts can be undone still", x.undo(), 3);
        x.plough(9);
        Check.feed(x, "person zoe;find a coin 0 0 0 0 0;");
        x.field();
        x.dig(0, 0, 0);
        Check.sentence(x, "coin");
        Check.same("of that one", x.said(-1), 1);
        Check.same("restore", x.restore(0), true);
        Check.same("nothing can be undone", x.undo(), -1);
        int[] after = all(x);
        for (int i = 0; i < before.length; i++) {
            Check.same("restored " + i, after[i], before[i]);
        }
        Check.same("names, too", Check.label(x, 0), "ring 400 told");
        Check.same("of a book", Check.book(x, 0, "bob digs 0 0;"), -1);
        x.dig(0, 2, 1);
        x.plough(5);
        Check.sentence(x, "bone and value > 3 and of ann");
        Check.same("restore again", x.restore(0), true);
        after = all(x);
        for (int i = 0; i < before.length; i++) {
            Check.same("restored again " + i, after[i], before[i]);
        }
    }

    private static int[] all(HiddenOrLost x) {
        int[] all = new int[120];
        int n = 0;
        for (int f = 0; f < x.count(1); f++) {
            for (int what = 0; what < 8; what++) {
                all[n++] = x.find(f, what);
            }
        }
        for (int p = 0; p < x.count(0); p++) {
            for (int what = 0; what < 4; what++) {
                all[n++] = x.person(p, what);
            }
        }
        for (int what = 0; what < 9; what++) {
            all[n++] = x.now(what);
        }
        for (int what = 0; what < 6; what++) {
            all[n++] = x.count(what);
        }
        for (int cell = 0; cell < 36; cell++) {
            all[n++] = x.cell(cell % 6, cell / 6, 0);
        }
        for (int k = -1; k < 3; k++) {
            all[n++] = x.said(k);
        }
        for (int r = 0; r < 3; r++) {
            all[n++] = (int) x.belief(r, 0);
            all[n++] = (int) x.gains(r, 0);
            all[n++] = (int) x.gains(r, 1);
        }
        all[n++] = x.fear(0, 1);
        return all;
    }

    private static void twoPlaces() {
        HiddenOrLost x = Check.withField("person a;");
        x.image(0);
        Check.feed(x, "person a;person b;find c coin 0 0 0 0 0;");
        x.field();
        Check.sentence(x, "coin");
        x.image(1);
        x.restore(0);
        Check.same("persons of the first", x.count(0), 1);
        Check.same("no sentence in the first", x.said(-1), -1);
        x.restore(1);
        Check.same("persons of the second", x.count(0), 2);
        Check.same("its sentence", x.said(0), 0);
        x.image(0);
        x.dig(0, 0, 0);
        x.restore(0);
        Check.same("kept anew", x.count(0), 2);
        Check.same("as it was then", x.find(0, 6), 0);
        Check.feed(x, "");
        x.field();
        Check.same("a new field leaves what is kept", x.restore(1), true);
        Check.same("its finds", x.count(1), 1);
    }

    private static void whatStays() {
        HiddenOrLost x = Check.withField(FIELD);
        x.image(0);
        x.dig(0, 1, 1);
        x.tell(0);
        x.route(1, 1, 2);
        x.parts();
        x.label(0);
        Check.book(x, 0, "night 3;");
        Check.sentence(x, "zoe");
        Check.feed(x, "abc");
        Check.same("restore", x.restore(0), true);
        Check.same("the tape stays", x.count(6), 3);
        Check.same("the route stays", x.routeAt(1), 1);
        Check.same("the parts stay", x.parted(), 0);
        Check.same("the label stays", x.byteAt(9), 't');
        Check.same("what was told of the book stays", x.told(2), 3);
        Check.same("the fault stays", x.fault(), 1);
        Check.same("and what is so is as it was", x.now(3), 0);
    }
}
