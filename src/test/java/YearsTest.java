/** Promises 28 and 30 to 35: fears, pots, parts, labels. */
public final class YearsTest {
    private YearsTest() {
    }

    public static void main(String[] args) {
        fears();
        pots();
        potsOfLikeOnes();
        parts();
        labels();
        Check.close();
    }

    /** A field with finds in the first cell, all of them had by its one person. */
    private static HiddenOrLost had(String lines, int finds) {
        HiddenOrLost x = Check.withField("person ann;" + lines);
        Check.same("all are found", x.dig(0, 0, 0), finds);
        return x;
    }

    private static void fears() {
        HiddenOrLost x = had("find a coin 0 0 0 400 0;find b pot 0 0 0 390 0;find c bone 0 0 0 431 0;"
            + "fear fa 0 399;fear fb 0 400;fear fc 430 999;fear fd 431 431;fear fe 410 415;fear ff 380 380;", 3);
        Check.same("nothing is told: all", x.fears(), 63);
        x.tell(1);
        // 390 to 420.
        Check.same("by 390", x.fears(), 1 + 2 + 16);
        x.tell(0);
        // 400 to 430.
        Check.same("by 400", x.fears(), 2 + 4 + 16);
        x.tell(2);
        Check.same("by 431", x.fears(), 4 + 8);
        Check.same("no fears", new HiddenOrLost().fears(), 0);
        HiddenOrLost y = had("find a coin 0 0 0 999 0;find b coin 0 0 0 0 0;fear fa 999 999;fear fb 0 30;fear fc 31 998;", 2);
        y.tell(1);
        Check.same("by 0", y.fears(), 2);
        y.tell(0);
        Check.same("by 999", y.fears(), 1);
    }

    private static void pots() {
        HiddenOrLost x = had("find a coin 0 0 0 500 0;find b coin 0 0 0 400 0;find c pot 0 0 0 100 0;find d coin 0 0 0 410 0;"
            + "find e coin 0 0 0 495 0;", 5);
        Check.same("none told", x.pots(), -1);
        Check.same("ahead of any", x.early(), -1);
        x.tell(0);
        x.tell(2);
        Check.same("one coin and a pot", x.pots(), -1);
        Check.same("ahead of any still", x.early(), -1);
        x.tell(1);
        Check.same("two coins", x.pots(), 0);
        Check.same("the earlier", x.early(), 2);
        x.tell(3);
        Check.same("three: 400 410 | 500", x.pots(), 10);
        Check.same("the earlier two", x.early(), 2 + 8);
        x.tell(4);
        Check.same("four: 400 410 | 495 500", x.pots(), 15);
        Check.same("the earlier two", x.early(), 2 + 8);
        Check.feed(x, "");
        x.field();
        Check.same("none", x.pots(), -1);
        Check.same("what was told last stays", x.early(), 2 + 8);
    }

    private static void potsOfLikeOnes() {
        HiddenOrLost x = had("find a coin 0 0 0 20 0;find b coin 0 0 0 10 0;find c coin 0 0 0 30 0;", 3);
        x.tell(0);
        x.tell(1);
        x.tell(2);
        Check.same("10 | 20 30 as good as 10 20 | 30", x.pots(), 10);
        Check.same("the fewest ahead", x.early(), 2);
        HiddenOrLost y = had("find a coin 0 0 0 7 0;find b coin 0 0 0 7 0;find c coin 0 0 0 7 0;", 3);
        y.tell(2);
        y.tell(1);
        Check.same("of one year", y.pots(), 0);
        Check.same("by number", y.early(), 2);
        y.tell(0);
        Check.same("three of one year", y.pots(), 0);
        Check.same("by number", y.early(), 1);
        HiddenOrLost w = had("find c pot 0 0 0 1 0;find a coin 0 0 0 90 0;find b coin 0 0 0 80 0;find d coin 0 0 0 20 0;find e coin 0 0 0 10 0;", 5);
        for (int f = 1; f < 5; f++) {
            w.tell(f);
        }
        Check.same("10 20 | 80 90", w.pots(), 20);
        Check.same("the last two", w.early(), 8 + 16);
        HiddenOrLost z = had("find a coin 0 0 0 90 0;find b coin 0 0 0 9 0;find c coin 0 0 0 9 0;", 3);
        z.tell(0);
        z.tell(1);
        z.tell(2);
        Check.same("9 9 | 90", z.pots(), 0);
        Check.same("both of 9", z.early(), 6);
    }

    private static void parts() {
        HiddenOrLost x = had("find a coin 0 0 0 0 5;find b pot 0 0 0 0 3;find c lid 0 0 0 0 4;find d lid 0 0 0 0 6;find e lid 0 0 0 0 0;", 5);
        Check.same("ahead of any", x.parted(), -1);
        Check.same("nothing", x.parts(), 0);
        Check.same("none of it", x.parted(), 0);
        x.tell(3);
        Check.same("one", x.parts(), 6);
        Check.same("the other has it", x.parted(), 0);
        x.tell(0);
        Check.same("5 and 6", x.parts(), 1);
        Check.same("the least bits", x.parted(), 1);
        x.tell(1);
        Check.same("5 3 | 6", x.parts(), 2);
        Check.same("5 and 3: bits 3, not 8", x.parted(), 3);
        x.tell(2);
        Check.same("5 4 | 3 6", x.parts(), 0);
        Check.same("5 and 4", x.parted(), 5);
        x.tell(4);
        Check.same("with one of no value", x.parts(), 0);
        Check.same("the other has it", x.parted(), 5);
        Check.feed(x, "");
        x.field();
        Check.same("stays until the next", x.parted(), 5);
        StringBuilder ten = new StringBuilder();
        for (int i = 0; i < 10; i++) {
            ten.append("find f").append((char) ('a' + i)).append(" pot 0 0 0 0 ").append(i < 9 ? 11 : 99).append(';');
        }
        HiddenOrLost y = had(ten.toString(), 10);
        for (int f = 0; f < 10; f++) {
            y.tell(f);
        }
        Check.same("nine against one", y.parts(), 0);
        Check.same("the nine", y.parted(), 511);
    }

    private static void labels() {
        HiddenOrLost x = Check.withField("person ann;person zzzzzzz;find abcdefg coin 0 0 0 0 9;find urn pot 0 0 0 7 0;find c lid 0 0 1 45 0;find z lid 1 1 9 999 0;");
        Check.same("ahead of any", x.byteAt(0), -1);
        Check.same("ground", Check.label(x, 0), "abcdefg 0 in the ground");
        Check.same("of two digits", Check.label(x, 2), "c 45 in the ground");
        x.dig(0, 0, 0);
        Check.same("had", Check.label(x, 1), "urn 7 had by ann");
        x.give(1, 1);
        Check.same("given", Check.label(x, 1), "urn 7 had by zzzzzzz");
        x.tell(1);
        Check.same("told", Check.label(x, 1), "urn 7 told");
        x.sell(0);
        Check.same("sold", Check.label(x, 0), "abcdefg 0 sold");
        x.dig(0, 0, 0);
        x.lay(2, 1, 1);
        Check.same("laid", Check.label(x, 2), "c 45 in the ground");
        Check.same("of three digits", Check.label(x, 3), "z 999 in the ground");
        Check.same("how many bytes", x.label(3), 19);
        Check.same("label(4)", x.label(4), -1);
        Check.same("label(-1)", x.label(-1), -1);
        Check.same("the latest stays", x.byteAt(0), 'z');
        Check.same("its last byte", x.byteAt(18), 'd');
        Check.same("none behind it", x.byteAt(19), -1);
        Check.same("byteAt(-1)", x.byteAt(-1), -1);
        Check.feed(x, "");
        x.field();
        Check.same("behind a new field, too", x.byteAt(2), '9');
        HiddenOrLost y = Check.withField("person zzzzzzz;find aaaaaaa coin 0 0 0 100 0;");
        y.dig(0, 0, 0);
        HiddenOrLost ten = Check.withField("find a coin 0 0 0 10 0;find b coin 0 0 0 100 0;find c coin 0 0 0 009 0;");
        Check.same("ten", Check.label(ten, 0), "a 10 in the ground");
        Check.same("a hundred", Check.label(ten, 1), "b 100 in the ground");
        Check.same("nine", Check.label(ten, 2), "c 9 in the ground");
        Check.same("the longest", Check.label(y, 0), "aaaaaaa 100 had by zzzzzzz");
    }
}
