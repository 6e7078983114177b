/** Texts that are good and texts that have a FAULT, on a fresh object each; a mark ^ shows the place and is taken out. */
final class Faults {
    /** A FIELD for books and sentences: two persons, two finds, a fear. */
    static final String FIELD = "field 6 6;person ann;person bob;find ring lid 1 1 0 400 9;find urn pot 0 0 1 410 21;fear war 0 9;";

    private Faults() {
    }

    /** The text with blanks ahead of it, so many that it has so many bytes. */
    static String wide(String text, int bytes) {
        return " ".repeat(bytes - text.length()) + text;
    }

    static void goodField(int lines, String text) {
        HiddenOrLost x = new HiddenOrLost();
        Check.feed(x, text);
        Check.same("lines of " + text, x.field(), lines);
        Check.same("no fault in " + text, x.fault(), 0);
        Check.same("the tape is empty behind it", x.count(6), 0);
    }

    static void goodBook(int lines, String text) {
        HiddenOrLost x = Check.withField(FIELD);
        int wrong = Check.book(x, 0, text);
        Check.same("no fault place in " + text, wrong >= -1, true);
        Check.same("no fault in " + text, x.fault(), 0);
        Check.same("the tape is empty behind it", x.count(6), 0);
        // How many lines are ahead of the wrong one tells all of them only if none is wrong.
        if (wrong == -1) {
            Check.same("lines of " + text, x.told(1), lines);
        }
    }

    static void goodSentence(int ones, String text) {
        HiddenOrLost x = Check.withField(FIELD);
        Check.same("ones of " + text, Check.sentence(x, text), ones);
        Check.same("no fault in " + text, x.fault(), 0);
        Check.same("the tape is empty behind it", x.count(6), 0);
    }

    static void inField(int kind, String marked) {
        inField(kind, marked.indexOf('^'), unmarked(marked));
    }

    static void inField(int kind, int place, String text) {
        HiddenOrLost x = new HiddenOrLost();
        Check.feed(x, text);
        Check.same("place of the fault in " + text, x.field(), -1 - place);
        Check.same("kind of the fault in " + text, x.fault(), kind);
        Check.same("the tape is empty behind it", x.count(6), 0);
    }

    static void inBook(int kind, String marked) {
        inBook(kind, marked.indexOf('^'), unmarked(marked));
    }

    static void inBook(int kind, int place, String text) {
        HiddenOrLost x = Check.withField(FIELD);
        Check.same("place of the fault in " + text, Check.book(x, 0, text), -2 - place);
        Check.same("kind of the fault in " + text, x.fault(), kind);
        Check.same("the tape is empty behind it", x.count(6), 0);
    }

    static void inSentence(int kind, String marked) {
        inSentence(kind, marked.indexOf('^'), unmarked(marked));
    }

    static void inSentence(int kind, int place, String text) {
        HiddenOrLost x = Check.withField(FIELD);
        Check.same("place of the fault in " + text, Check.sentence(x, text), -1 - place);
        Check.same("kind of the fault in " + text, x.fault(), kind);
        Check.same("the tape is empty behind it", x.count(6), 0);
    }

    /** Each text that stops behind one of the good text's TOKENS but the last two has its FAULT there: at the end, or at a ; that comes too early. */
    static void stopping(FaultAt fault, String good) {
        for (int at = good.indexOf(' '); at > 0; at = good.indexOf(' ', at + 1)) {
            fault.is(at, good.substring(0, at));
            fault.is(at, good.substring(0, at) + ";");
            fault.is(at + 2, good.substring(0, at) + " \n;" + good.substring(at));
        }
    }

    interface FaultAt {
        void is(int place, String text);
    }

    private static String unmarked(String marked) {
        int place = marked.indexOf('^');
        return marked.substring(0, place) + marked.substring(place + 1);
    }
}
