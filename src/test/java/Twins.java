import java.util.NoSuchElementException;
import java.util.function.ToLongFunction;

/**
 * Two objects to which the same was done, in a field where something is of each sort. A call that is refused is made on
 * one of them alone: they answer alike then, and go on alike when acts are undone and an image is restored.
 */
final class Twins {
    /** Finds 0 to 4: had by ann, told, told, in the ground, sold. The cell (2, 0) is dug 10 deep. */
    private static final String FIELD = "field 3 2;person ann;person bob;find ring lid 1 1 0 400 9;find urn coin 0 0 1 410 20;"
        + "find as coin 0 0 0 420 31;find jug pot 2 1 2 430 7;find cup bone 0 1 0 380 40;fear war 400 440;fear flood 500 600;"
        + "hint hidden coin 9;gets lost finder 8;risk 2;";
    private static final int JUG_STAYS = Draws.seedFor(5, 0, 3, 2);
    private static final int RING_STAYS = Draws.seedFor(2, 0, 6, 2, 4, 2);
    private static final String TAPE = "abc";

    private Twins() {
    }

    static HiddenOrLost one() {
        HiddenOrLost x = Check.withField(FIELD);
        x.dig(0, 1, 1);
        x.dig(0, 0, 0);
        x.dig(1, 0, 0);
        x.dig(0, 0, 1);
        x.tell(1);
        x.tell(2);
        x.image(0);
        x.sell(4);
        x.plough(JUG_STAYS);
        x.nights(1, RING_STAYS);
        for (int i = 0; i < 9; i++) {
            x.dig(1, 2, 0);
        }
        x.route(0, 0, 3);
        x.pots();
        x.parts();
        x.label(0);
        Check.book(x, 0, "ann digs 1 1;urn told;");
        Check.sentence(x, "told or of ann");
        Check.sentence(x, "zoe");
        Check.feed(x, TAPE);
        return x;
    }

    /** The call on the one twin answers what is wanted, and nothing that can be asked is other than in the other one. */
    static void refused(String call, long want, ToLongFunction<HiddenOrLost> made) {
        HiddenOrLost x = one();
        Check.same(call, made.applyAsLong(x), want);
        alike(call, x, one());
    }

    static void throwsNoSuch(String call, ToLongFunction<HiddenOrLost> made) {
        HiddenOrLost x = one();
        boolean thrown = false;
        try {
            made.applyAsLong(x);
        } catch (NoSuchElementException e) {
            thrown = true;
        }
        Check.same(call + " throws NoSuchElementException", thrown, true);
        alike(call, x, one());
    }

    static void alike(String call, HiddenOrLost x, HiddenOrLost y) {
        Check.same("all behind " + call, all(x), all(y));
        for (int i = 0; i < 9; i++) {
            Check.same("undo() behind " + call, x.undo(), y.undo());
        }
        Check.same("what is so behind " + call + " and undo()", state(x), state(y));
        Check.same("restore(1) behind " + call, x.restore(1), y.restore(1));
        Check.same("restore(0) behind " + call, x.restore(0), y.restore(0));
        Check.same("what is so behind " + call + " and restore()", state(x), state(y));
    }

    /** All that can be asked without changing what is told. */
    static String all(HiddenOrLost x) {
        return state(x) + last(x) + " fault " + x.fault() + " tape " + x.count(6);
    }

    /** What route(), pots(), parts(), label() and book() told last. */
    static String last(HiddenOrLost x) {
        StringBuilder text = new StringBuilder(" early ").append(x.early()).append(" parted ").append(x.parted()).append(" route");
        for (int k = 0; k < 8; k++) {
            text.append(' ').append(x.routeAt(k));
        }
        text.append(" label");
        for (int i = 0; i < 27; i++) {
            text.append(' ').append(x.byteAt(i));
        }
        text.append(" told");
        for (int what = 0; what < 4; what++) {
            text.append(' ').append(x.told(what));
        }
        return text.toString();
    }

    /** All that an image keeps. */
    static String state(HiddenOrLost x) {
        StringBuilder text = new StringBuilder();
        for (int f = 0; f < x.count(1); f++) {
            text.append(" find");
            for (int what = 0; what < 8; what++) {
                text.append(' ').append(x.find(f, what));
            }
        }
        for (int p = 0; p < x.count(0); p++) {
            text.append(" person");
            for (int what = 0; what < 4; what++) {
                text.append(' ').append(x.person(p, what));
            }
        }
        text.append(" dug");
        for (int y = 0; y < x.count(4); y++) {
            for (int column = 0; column < x.count(3); column++) {
                text.append(' ').append(x.cell(column, y, 0));
            }
        }
        text.append(" now");
        for (int what = 0; what < 9; what++) {
            text.append(' ').append(x.now(what));
        }
        text.append(" count");
        for (int what = 0; what < 6; what++) {
            text.append(' ').append(x.count(what));
        }
        text.append(" fears");
        for (int k = 0; k < x.count(2); k++) {
            text.append(' ').append(x.fear(k, 0)).append(' ').append(x.fear(k, 1));
        }
        text.append(" said");
        for (int k = -1; k < 3; k++) {
            text.append(' ').append(x.said(k));
        }
        return text.append(" belief ").append(x.belief(0, 0)).append(' ').append(x.belief(0, 1)).append(" gains ").append(x.gains(1, 0)).toString();
    }
}
