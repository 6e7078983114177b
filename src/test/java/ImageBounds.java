/** Promises 41 and 42: what is kept in a place, and how it is restored. */
final class ImageBounds {
    private static final int[] BAD = {-1, 2, Integer.MIN_VALUE, Integer.MAX_VALUE};

    private ImageBounds() {
    }

    static void run() {
        image();
        places();
        restore();
        refused();
    }

    private static void other(HiddenOrLost x) {
        Check.feed(x, "field 6 6;person zoe;find q bone 5 5 9 1 2;fear w 0 1;risk 11;prior lost 7;hint lost bone 1;gets buried finder 0;");
        x.field();
        x.dig(0, 5, 5);
        x.nights(3, 3);
        x.plough(9);
        Check.sentence(x, "bone and number<7 or of zoe and number<7");
        Check.sentence(x, "bone or number<7 or of zoe or number<7");
    }

    private static void image() {
        Bounds.promise(41, "FIELD, all that is so and the SENTENCE are kept in place k (0, 1): true;", () -> {
            for (int k = 0; k < 2; k++) {
                HiddenOrLost x = Twins.one();
                Check.sentence(x, "told and year>415 or value=9 and of ann or number=3");
                Check.same("of three", x.said(-1) * 1000 + x.said(0) * 100 + x.said(1) * 10 + x.said(2), 3023);
                String before = Twins.state(x);
                Check.same("image(" + k + ")", x.image(k), true);
                Check.same("all stays as it is", Twins.state(x), before);
                Check.same("acts can be undone still", x.undo(), 7);
                other(x);
                Check.same("restore(" + k + ")", x.restore(k), true);
                Check.same("field, all that is so, sentence", Twins.state(x), before);
                Check.same("a find's name", Check.label(x, 2), "as 420 told");
                Check.same("a person's name", Check.label(x, 0), "ring 400 had by ann");
                Check.same("names of a book", Check.book(x, 0, "bob digs 0 0;ann digs 0 0;"), -1);
                Check.same("names not told there", Check.book(x, 0, "zoe digs 0 0;"), -2);
            }
        });
    }

    private static void places() {
        Bounds.promise(41, "are kept in place k (0, 1)", () -> {
            HiddenOrLost x = new HiddenOrLost();
            x.image(0);
            Check.feed(x, "person a;find b pot 0 0 0 0 0;");
            x.field();
            Check.sentence(x, "pot");
            x.image(1);
            x.dig(0, 0, 0);
            Check.same("the first place", x.restore(0), true);
            Check.same("no persons", x.count(0), 0);
            Check.same("no sentence", x.said(-1), -1);
            Check.same("the second place", x.restore(1), true);
            Check.same("a person", x.count(0), 1);
            Check.same("a sentence", x.said(-1), 1);
            Check.same("ahead of the dig", x.find(0, 6), 0);
            x.dig(0, 0, 0);
            x.image(0);
            x.restore(1);
            Check.same("the second place as it was", x.find(0, 6), 0);
            x.restore(0);
            Check.same("the first place anew", x.find(0, 6), 1);
            x.tell(0);
            Check.sentence(x, "not pot");
            x.restore(0);
            Check.same("what comes behind restore() is not kept", x.find(0, 6), 1);
            Check.same("nor its sentence", x.said(-1), 1);
        });
    }

    private static void restore() {
        Bounds.promise(42, "They are as kept in place k (the tape, and what other calls told last, stays; nothing can be undone): true;", () -> {
            for (int k = 0; k < 2; k++) {
                HiddenOrLost x = Check.withField("person p;find c coin 0 0 0 3 4;");
                String kept = Twins.state(x);
                x.image(k);
                x.dig(0, 0, 0);
                x.tell(0);
                x.route(0, 0, 8);
                x.parts();
                x.label(0);
                Check.book(x, 0, "night 3;c told;");
                Check.sentence(x, "zz");
                Check.feed(x, "person q;");
                String last = Twins.last(x);
                Check.same("restore(" + k + ")", x.restore(k), true);
                Check.same("as kept", Twins.state(x), kept);
                Check.same("nothing can be undone", x.undo(), -1);
                Check.same("what other calls told last", Twins.last(x), last);
                Check.same("the fault, too", x.fault(), 1);
                Check.same("bytes of the tape", x.count(6), 9);
                Check.same("and again", x.restore(k), true);
                Check.same("as kept", Twins.state(x), kept);
                Check.same("the tape is a field", x.field(), 1);
                Check.same("it is kept still", x.restore(k), true);
                Check.same("as kept", Twins.state(x), kept);
            }
        });
    }

    private static void refused() {
        Bounds.promise(41, "false: no such one.", () -> {
            for (int k : BAD) {
                Twins.refused("image(" + k + ")", 0, x -> x.image(k) ? 1 : 0);
            }
        });
        Bounds.promise(42, "false: no such one, or nothing is kept there.", () -> {
            for (int k : BAD) {
                Twins.refused("restore(" + k + ")", 0, x -> x.restore(k) ? 1 : 0);
            }
            Twins.refused("restore(1), where nothing is kept", 0, x -> x.restore(1) ? 1 : 0);
            HiddenOrLost x = new HiddenOrLost();
            Check.same("restore(0) of a new object", x.restore(0), false);
            Check.same("restore(1) of a new object", x.restore(1), false);
            x.image(1);
            Check.same("restore(0), kept in the other place", x.restore(0), false);
            Check.same("restore(1)", x.restore(1), true);
        });
    }
}
