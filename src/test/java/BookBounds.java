/** Promises 37 to 40: a BOOK and what is told of it, a SENTENCE and of what it is said. */
final class BookBounds {
    private static final int[] FAR = {-1, Integer.MIN_VALUE, Integer.MAX_VALUE};
    private static final String FIELD = "field 3 2;person ann;person bob;find ring lid 1 1 0 400 9;find urn pot 0 0 1 410 21;";

    private BookBounds() {
    }

    static void run() {
        judged();
        lived();
        wrongLine();
        faults();
        otherLives();
        whyWrong();
        whyWrongNights();
        linesAhead();
        nightThen();
        toldThen();
        toldOfNone();
        sentence();
        sentenceBefore();
        said();
        saidOfNone();
    }

    private static void judged() {
        Bounds.promise(37, "The tape is a BOOK: it is judged, all staying as it is (lives 0),", () -> {
            String[] books = {"ann digs 1 1;ring told;plough 3;night 30;bob digs 0 0;", "ring told;", "", "plough 7;".repeat(40)};
            for (String book : books) {
                HiddenOrLost x = Check.withField(FIELD);
                x.dig(0, 2, 1);
                Check.sentence(x, "ground");
                String before = Twins.state(x);
                Check.same("a wrong line or none", Check.book(x, 0, book), book.equals("ring told;") ? 0 : -1);
                Check.same("all stays", Twins.state(x), before);
                Check.same("the dig ahead is the one to undo", x.undo(), 0);
                Check.same("it is undone", x.now(6), 0);
            }
        });
    }

    private static void lived() {
        Bounds.promise(37, "or lived as far as it is not WRONG (1):", () -> {
            HiddenOrLost x = Check.withField(FIELD);
            Check.same("the third is wrong", Check.book(x, 1, "ann digs 1 1;ring given bob;urn told;ring told;"), 2);
            Check.same("the first is lived", x.now(6), 1);
            Check.same("the second, too", x.find(0, 7), 1);
            Check.same("what is behind it is not", x.find(0, 6), 1);
            String before = Twins.state(x);
            Check.same("the first is wrong", Check.book(x, 1, "urn told;ring told;"), 0);
            Check.same("nothing is lived", Twins.state(x), before);
            Check.same("all of forty", Check.book(x, 1, "plough 7;".repeat(40)), -1);
            Check.same("forty are lived", x.now(8), 40);
            HiddenOrLost y = Check.withField(FIELD);
            HiddenOrLost z = Check.withField(FIELD);
            Check.book(y, 1, "plough 0;night 1;plough 999;night 30;ann digs 2 1;bob digs 0 0;");
            z.plough(0);
            z.nights(1, 1);
            z.plough(999);
            z.nights(30, 30);
            z.dig(0, 2, 1);
            z.dig(1, 0, 0);
            Check.same("as by calls", Twins.state(y), Twins.state(z));
        });
    }

    private static void wrongLine() {
        Bounds.promise(37, "the LINE that is WRONG (from 0); NONE: none;", () -> {
            for (int lives = 0; lives < 2; lives++) {
                for (int line = 0; line < 40; line++) {
                    HiddenOrLost x = Check.withField(FIELD);
                    String book = "plough 7;".repeat(line) + "urn told;" + "night 1;".repeat(line < 20 ? 1 : 0);
                    Check.same("line " + line, Check.book(x, lives, book), line);
                }
                Check.same("none of forty", Check.book(Check.withField(FIELD), lives, "plough 7;".repeat(40)), -1);
                Check.same("none of none", Check.book(Check.withField(FIELD), lives, ""), -1);
                Check.same("none of none in an empty field", Check.book(new HiddenOrLost(), lives, ""), -1);
            }
        });
    }

    private static void faults() {
        Bounds.promise(37, "-2 less the place of a FAULT;", () -> {
            for (int lives = 0; lives < 2; lives++) {
                HiddenOrLost x = Check.withField(FIELD);
                Check.same("at 0", Check.book(x, lives, "."), -2);
                Check.same("at 399", Check.book(x, lives, Faults.wide(".", 400)), -401);
                Check.same("at 400", Check.book(x, lives, " ".repeat(401)), -402);
                Check.same("at the end of 400", Check.book(x, lives, Faults.wide("ann", 400)), -402);
                Check.same("at the most bytes of 940", Check.book(x, lives, " ".repeat(940)), -402);
            }
            HiddenOrLost x = Twins.one();
            HiddenOrLost y = Twins.one();
            Check.same("a fault behind good lines", Check.book(x, 1, "plough 3;ring told;night 7;;"), -29);
            y.end(0);
            Twins.alike("a book with a fault", x, y);
        });
    }

    private static void otherLives() {
        Bounds.promise(37, "-1000: another lives (the tape stays).", () -> {
            for (int lives : new int[] {2, -1, Integer.MIN_VALUE, Integer.MAX_VALUE}) {
                Twins.refused("book(" + lives + ")", -1000, x -> x.book(lives));
                HiddenOrLost x = Check.withField(FIELD);
                Check.feed(x, "plough 3;");
                Check.same("book(" + lives + ")", x.book(lives), -1000);
                Check.same("the tape stays", x.count(6), 9);
                Check.same("and is a book still", x.book(1), -1);
                Check.same("that is lived", x.now(8), 1);
            }
        });
    }

    private static void wrong(int why, int line, String book) {
        for (int lives = 0; lives < 2; lives++) {
            HiddenOrLost x = Check.withField(FIELD);
            Check.same("the wrong line of " + book, Check.book(x, lives, book), line);
            Check.same("why of " + book, x.told(0), why);
            Check.same("lines ahead in " + book, x.told(1), line);
        }
    }

    private static void whyWrong() {
        Bounds.promise(38, "Of the latest book() that had no FAULT (and was not -1000): 0 why it was WRONG (0: it was not;"
            + " 1 as for digging, 9 there is no such cell; 11 as for telling, 21 for selling, 31 for laying, 39 there is no such cell (asked first), 41, 42 for giving;", () -> {
            HiddenOrLost x = Check.withField(FIELD);
            Check.book(x, 0, "ann digs 1 1;ring told;");
            Check.same("it was not", x.told(0), 0);
            wrong(1, 10, "ann digs 2 0;".repeat(11));
            wrong(9, 0, "ann digs 3 0;");
            wrong(9, 0, "ann digs 0 2;");
            wrong(9, 0, "ann digs 5 5;");
            wrong(1, 10, "bob digs 2 1;".repeat(11) + "bob digs 3 1;");
            for (String ahead : new String[] {"", "ann digs 1 1;ring told;", "ann digs 1 1;ring sold;", "ann digs 1 1;ring laid 2 1;"}) {
                int line = ahead.isEmpty() ? 0 : 2;
                wrong(11, line, ahead + "ring told;");
                wrong(21, line, ahead + "ring sold;");
                wrong(31, line, ahead + "ring laid 2 1;");
                wrong(39, line, ahead + "ring laid 3 0;");
                wrong(39, line, ahead + "ring laid 0 2;");
                wrong(41, line, ahead + "ring given ann;");
                wrong(41, line, ahead + "ring given bob;");
            }
            wrong(39, 1, "ann digs 1 1;ring laid 3 1;");
            wrong(42, 1, "ann digs 1 1;ring given ann;");
            wrong(42, 2, "ann digs 1 1;ring given bob;ring given bob;");
            Check.same("a fault", Check.book(x, 0, "ann digs 9 9;"), -11);
            Check.same("leaves it", x.told(0), 0);
            Check.book(x, 0, "urn sold;");
            Check.same("-1000", x.book(2), -1000);
            Check.same("leaves it, too", x.told(0), 21);
            Check.book(x, 0, "");
            Check.same("an empty book was not", x.told(0), 0);
        });
    }

    private static void whyWrongNights() {
        Bounds.promise(38, "59: there are no PERSONS for a NIGHT, else 51: fewer NIGHTS are left),", () -> {
            HiddenOrLost none = Check.withField("find a pot 0 0 0 0 0;");
            Check.same("a night without persons", Check.book(none, 1, "plough 1;night 1;"), 1);
            Check.same("why", none.told(0), 59);
            HiddenOrLost x = Check.withField("person p;");
            Check.same("390 nights", Check.book(x, 1, "night 30;".repeat(13)), -1);
            Check.same("eleven of ten", Check.book(x, 0, "night 11;"), 0);
            Check.same("why", x.told(0), 51);
            Check.same("thirty of ten", Check.book(x, 1, "night 30;"), 0);
            Check.same("why", x.told(0), 51);
            Check.same("none went by", x.now(0), 390);
            Check.same("ten of ten", Check.book(x, 0, "night 10;"), -1);
            Check.same("nine, and two of one", Check.book(x, 1, "night 9;night 2;"), 1);
            Check.same("why", x.told(0), 51);
            Check.same("one of one", Check.book(x, 1, "night 1;"), -1);
            Check.same("all are over", x.now(0), 400);
            Check.same("one of none", Check.book(x, 1, "night 1;"), 0);
            Check.same("why", x.told(0), 51);
            Check.feed(none, "");
            none.field();
            Check.same("no persons and thirty", Check.book(none, 0, "night 30;"), 0);
            Check.same("why", none.told(0), 59);
        });
    }

    private static void linesAhead() {
        Bounds.promise(38, "1 how many LINES are ahead of the one that is WRONG (all, if none is),", () -> {
            HiddenOrLost x = Check.withField(FIELD);
            Check.book(x, 0, "");
            Check.same("none of none", x.told(1), 0);
            Check.book(x, 0, "urn told;plough 1;");
            Check.same("none ahead", x.told(1), 0);
            Check.book(x, 0, "plough 1;".repeat(39) + "urn told;");
            Check.same("39 ahead", x.told(1), 39);
            Check.book(x, 0, "plough 1;".repeat(40));
            Check.same("all of forty", x.told(1), 40);
            Check.book(x, 1, "ann digs 0 0;");
            Check.same("all of one", x.told(1), 1);
        });
    }

    private static void nightThen() {
        Bounds.promise(38, "2 the NIGHT then,", () -> {
            HiddenOrLost x = Check.withField("person p;");
            Check.book(x, 0, "");
            Check.same("0", x.told(2), 0);
            Check.book(x, 0, "night 30;night 5;");
            Check.same("35", x.told(2), 35);
            Check.same("judged alone", x.now(0), 0);
            Check.book(x, 1, "night 7;p digs 5 5;night 9;");
            Check.same("7, ahead of the wrong line", x.told(2), 7);
            Check.same("lived", x.now(0), 7);
            x.nights(30, 1);
            Check.same("it stays until the next book", x.told(2), 7);
            Check.book(x, 0, "night 3;");
            Check.same("from now on", x.told(2), 40);
            Check.book(x, 1, "night 30;".repeat(12) + "night 3;");
            Check.same("400", x.told(2), 400);
        });
    }

    private static void toldThen() {
        Bounds.promise(38, "3 FINDS that are TOLD then, as bits.", () -> {
            HiddenOrLost x = Check.withField("person p;" + ThoughtBounds.manyFinds(10, "pot", "0 0"));
            Check.book(x, 0, "");
            Check.same("none", x.told(3), 0);
            Check.book(x, 0, "p digs 0 0;fa told;fj told;");
            Check.same("two", x.told(3), 513);
            Check.same("judged alone", x.now(3), 0);
            Check.book(x, 1, "p digs 0 0;fb told;fb told;fc told;");
            Check.same("one, ahead of the wrong line", x.told(3), 2);
            Check.book(x, 1, "fa told;fc told;fd told;fe told;ff told;fg told;fh told;fi told;fj told;");
            Check.same("all ten", x.told(3), 1023);
            x.undo();
            Check.same("it stays until the next book", x.told(3), 1023);
        });
    }

    private static void toldOfNone() {
        Bounds.promise(38, "NONE: another what, or ahead of any.", () -> {
            HiddenOrLost x = Check.withField(FIELD);
            for (int what = -1; what < 5; what++) {
                Check.same("ahead of any, told(" + what + ")", x.told(what), -1);
            }
            Check.book(x, 0, "zoe told;");
            x.book(2);
            for (int what = 0; what < 4; what++) {
                Check.same("ahead of any that had no fault, told(" + what + ")", x.told(what), -1);
            }
            for (int far : FAR) {
                Twins.refused("told(" + far + ")", -1, y -> y.told(far));
            }
            Twins.refused("told(4)", -1, y -> y.told(4));
        });
    }

    private static void sentence() {
        Bounds.promise(39, "The tape is the SENTENCE now: how many ONES (each not, bracket and other one);", () -> {
            Faults.goodSentence(1, "coin");
            Faults.goodSentence(2, "not coin");
            Faults.goodSentence(2, "(coin)");
            Faults.goodSentence(3, "not (coin)");
            Faults.goodSentence(3, "(coin or lid)");
            Faults.goodSentence(3, "coin and lid or told");
            Faults.goodSentence(3, "of ann or year<4 and number=3");
            Faults.goodSentence(19, "lid or ".repeat(18) + "lid");
            Faults.goodSentence(20, "lid and ".repeat(19) + "lid");
            HiddenOrLost x = Check.withField(FIELD);
            Check.sentence(x, "lid");
            Check.same("the first", x.said(0), 0);
            Check.sentence(x, "pot");
            Check.same("the sentence now", x.said(0), 1);
            Check.same("and it alone", x.said(-1), 1);
            Check.sentence(x, "not not not coin");
            Check.sentence(x, "not not not coin");
            Check.sentence(x, "lid");
            Check.same("a shorter one behind longer ones", x.said(-1) * 10 + x.said(0), 10);
            Check.sentence(x, "pot");
            Check.same("and another one", x.said(-1) * 10 + x.said(0), 11);
        });
    }

    private static void sentenceBefore() {
        Bounds.promise(39, "-1 less the place of a FAULT: the SENTENCE before stays.", () -> {
            Faults.inSentence(1, 0, "");
            Faults.inSentence(1, 199, Faults.wide(".", 200));
            Faults.inSentence(1, 200, " ".repeat(201));
            Faults.inSentence(1, 200, " ".repeat(940));
            for (String bad : new String[] {".", "", "not (coin or lid) and told and^", "not ground and pot or lid lid"}) {
                HiddenOrLost x = Twins.one();
                HiddenOrLost y = Twins.one();
                Check.feed(x, bad);
                Check.same("sentence() of " + bad, x.sentence() < 0, true);
                Check.same("a fault of kind 1, as the latest one was", x.fault(), 1);
                y.end(0);
                Twins.alike("sentence() of " + bad, x, y);
            }
            HiddenOrLost none = Check.withField(FIELD);
            Check.sentence(none, "lid or");
            Check.same("there is none still", none.said(-1), -1);
        });
    }

    private static void said() {
        Bounds.promise(40, "FINDS of which it may be said: how many (k NONE), or the k-th.", () -> {
            HiddenOrLost x = Check.withField("person p;" + ThoughtBounds.manyFinds(10, "pot", "0 0"));
            Check.sentence(x, "pot");
            Check.same("ten", x.said(-1), 10);
            for (int k = 0; k < 10; k++) {
                Check.same("the k-th", x.said(k), k);
            }
            Check.sentence(x, "number > 2 and not number = 4 and not number > 8");
            Check.same("five", x.said(-1), 5);
            int[] due = {3, 5, 6, 7, 8};
            for (int k = 0; k < 5; k++) {
                Check.same("the k-th", x.said(k), due[k]);
            }
            Check.sentence(x, "number=9");
            Check.same("one", x.said(-1), 1);
            Check.same("the last", x.said(0), 9);
            Check.sentence(x, "found");
            Check.same("none", x.said(-1), 0);
            x.dig(0, 0, 0);
            Check.same("of what is so now", x.said(-1), 10);
            x.undo();
            Check.same("and is not any more", x.said(-1), 0);
        });
    }

    private static void saidOfNone() {
        Bounds.promise(40, "NONE: there is no SENTENCE, none such.", () -> {
            for (int k : new int[] {-1, 0, 1, -2, Integer.MIN_VALUE, Integer.MAX_VALUE}) {
                Check.same("no sentence, said(" + k + ")", Check.withField(FIELD).said(k), -1);
                Check.same("nor of a new object", new HiddenOrLost().said(k), -1);
            }
            HiddenOrLost x = Check.withField("person p;" + ThoughtBounds.manyFinds(10, "pot", "0 0"));
            Check.sentence(x, "pot");
            for (int k : new int[] {10, 11, -2, -3, Integer.MIN_VALUE, Integer.MAX_VALUE}) {
                Check.same("none such, said(" + k + ")", x.said(k), -1);
            }
            Check.sentence(x, "coin");
            Check.same("the first of none", x.said(0), -1);
            Check.feed(x, "person p;");
            x.field();
            Check.same("no sentence in a new field", x.said(-1), -1);
            Twins.refused("said(3) of three", -1, y -> y.said(3));
        });
    }
}
