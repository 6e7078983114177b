/** Promises 18 to 23: beliefs, what would tell most, gains, and whether a finder had best tell. */
public final class BeliefTest {
    private BeliefTest() {
    }

    public static void main(String[] args) {
        refused();
        beliefs();
        allZero();
        greatNumbers();
        sure();
        gains();
        best();
        Check.close();
    }

    private static void refused() {
        HiddenOrLost x = new HiddenOrLost();
        for (int bad : new int[] {-1, 3, Integer.MAX_VALUE, Integer.MIN_VALUE}) {
            Check.throwsNoSuch("belief(" + bad + ", 0)", () -> x.belief(bad, 0));
            Check.throwsNoSuch("gains(" + bad + ", 0)", () -> x.gains(bad, 0));
            Check.throwsNoSuch("belief(0, " + bad + ")", () -> x.belief(0, bad));
            Check.throwsNoSuch("sure(0, " + bad + ")", () -> x.sure(0, bad));
            Check.throwsNoSuch("gains(0, " + bad + ")", () -> x.gains(0, bad));
        }
        Check.throwsNoSuch("belief(0, 2)", () -> x.belief(0, 2));
        Check.throwsNoSuch("sure(4, 0)", () -> x.sure(4, 0));
        Check.throwsNoSuch("sure(-1, 0)", () -> x.sure(-1, 0));
        Check.throwsNoSuch("sure(0, 2)", () -> x.sure(0, 2));
        Check.throwsNoSuch("gains(0, 2)", () -> x.gains(0, 2));
        Check.same("sure(3, 1)", x.sure(3, 1), 3);
    }

    private static void belief(String when, HiddenOrLost x, int r, long above, long below) {
        Check.same(when + " belief " + r + " above", x.belief(r, 0), above);
        Check.same(when + " belief " + r + " below", x.belief(r, 1), below);
    }

    private static void sure(String when, HiddenOrLost x, int k, long above, long below) {
        Check.same(when + " sure " + k + " above", x.sure(k, 0), above);
        Check.same(when + " sure " + k + " below", x.sure(k, 1), below);
    }

    private static void gains(String when, HiddenOrLost x, int role, long above, long below) {
        Check.same(when + " gains " + role + " above", x.gains(role, 0), above);
        Check.same(when + " gains " + role + " below", x.gains(role, 1), below);
    }

    private static void beliefs() {
        HiddenOrLost x = Check.withField("person a;find c coin 0 0 0 0 0;find d pot 0 0 0 0 0;find e coin 1 0 0 0 0;"
            + "prior hidden 3;prior buried 2;hint hidden coin 1;hint lost coin 12;hint buried coin 0;hint lost pot 2;");
        belief("new", x, 0, 1, 2);
        belief("new", x, 1, 1, 6);
        belief("new", x, 2, 1, 3);
        Check.same("new reading", x.reading(), 0);
        x.dig(0, 0, 0);
        belief("what is had tells nothing", x, 1, 1, 6);
        x.tell(0);
        belief("coin", x, 0, 1, 5);
        belief("coin", x, 1, 4, 5);
        belief("coin", x, 2, 0, 1);
        Check.same("coin reading", x.reading(), 1);
        x.tell(1);
        // Weights 3 by 1 by 6 and 1 by 12 by 2.
        belief("coin and pot", x, 0, 3, 7);
        belief("coin and pot", x, 1, 4, 7);
        x.dig(0, 1, 0);
        x.sell(2);
        belief("what is sold tells nothing", x, 1, 4, 7);
        HiddenOrLost like = Check.withField("prior hidden 1;prior lost 9;prior buried 9;");
        Check.same("of like ones the first", like.reading(), 1);
    }

    private static void allZero() {
        HiddenOrLost x = Check.withField("person a;find c lid 0 0 0 0 12;hint hidden lid 0;hint lost lid 0;hint buried lid 0;prior buried 99;"
            + "hint hidden coin 12;hint lost coin 0;hint buried coin 3;gets buried king 12;");
        Check.same("ahead of it", x.reading(), 2);
        x.dig(0, 0, 0);
        x.tell(0);
        for (int r = 0; r < 3; r++) {
            belief("all 0", x, r, 1, 3);
        }
        Check.same("all 0: the first", x.reading(), 0);
        sure("all 0", x, 0, 2, 3);
        sure("all 0", x, 2, 1, 3);
        gains("all 0", x, 0, 20, 3);
    }

    private static void greatNumbers() {
        StringBuilder text = new StringBuilder("person a;prior hidden 99;prior lost 98;prior buried 97;");
        for (int i = 0; i < 10; i++) {
            text.append("find f").append((char) ('a' + i)).append(" coin 0 0 0 0 99;");
        }
        text.append("hint hidden coin 12;hint lost coin 11;hint buried coin 7;gets hidden king 12;gets lost king 11;gets buried king 10;");
        HiddenOrLost x = Check.withField(text.toString());
        x.dig(0, 0, 0);
        for (int f = 0; f < 10; f++) {
            Check.same("tell", x.tell(f), 0);
        }
        long hidden = 99;
        long lost = 98;
        long buried = 97;
        for (int i = 0; i < 10; i++) {
            hidden *= 12;
            lost *= 11;
            buried *= 7;
        }
        long total = hidden + lost + buried;
        Check.same("least terms cross", x.belief(0, 0) * (total / gcd(total, hidden)), hidden / gcd(total, hidden) * x.belief(0, 1));
        Check.same("least terms", x.belief(1, 1), total / gcd(total, lost));
        long share = 990 * (12 * hidden + 11 * lost + 10 * buried);
        Check.same("gains above", x.gains(0, 0), share / gcd(share, 12 * total));
        Check.same("gains below", x.gains(0, 1), 12 * total / gcd(share, 12 * total));
        long right = 12 * hidden + Math.max(lost, 5 * buried);
        Check.same("sure above", x.sure(0, 0), right / gcd(right, 12 * total));
        Check.same("sure below", x.sure(0, 1), 12 * total / gcd(right, 12 * total));
    }

    private static long gcd(long a, long b) {
        return b == 0 ? a : gcd(b, a % b);
    }

    private static void sure() {
        HiddenOrLost x = Check.withField("prior hidden 2;prior lost 2;prior buried 1;hint hidden pot 12;hint lost pot 0;hint buried pot 6;"
            + "hint hidden bone 12;hint lost bone 0;hint buried bone 12;hint lost lid 12;hint hidden lid 7;");
        // Coin: 2 by 6 and 2 by 6 of 60. Pot: 2 by 12 and 2 by 12 of 60. Lid: 2 by 12 and 2 by 5, 1 by 6.
        sure("priors", x, 0, 2, 5);
        sure("priors", x, 1, 4, 5);
        sure("priors", x, 2, 17, 30);
        sure("priors", x, 3, 4, 5);
        Check.same("of like ones the first", x.asks(), 1);
        HiddenOrLost y = Check.withField("hint hidden bone 12;hint lost bone 0;");
        Check.same("the last kind", y.asks(), 3);
        Check.same("all alike", new HiddenOrLost().asks(), 0);
    }

    private static void gains() {
        HiddenOrLost x = Check.withField("person a;find c coin 0 0 0 0 10;find d pot 0 0 0 0 7;find e pot 0 0 1 0 50;"
            + "gets hidden king 12;gets lost king 0;gets hidden finder 1;gets lost owner 7;prior lost 2;");
        gains("nothing told", x, 0, 0, 1);
        x.dig(0, 0, 0);
        x.tell(0);
        // Beliefs 1, 2, 1 of 4; the king gets 12, 0, 4 of 12; the finder 1, 4, 4; the owner 4, 7, 4.
        gains("one", x, 0, 10, 3);
        gains("one", x, 1, 65, 24);
        gains("one", x, 2, 55, 12);
        x.tell(1);
        gains("two", x, 0, 17, 3);
        x.dig(0, 0, 0);
        x.sell(2);
        gains("what is sold gives nothing", x, 0, 17, 3);
    }

    private static int bestOf(String more) {
        HiddenOrLost x = Check.withField("person a;find c coin 0 0 0 0 15;" + more);
        Check.same("nobody has it", x.best(0), -1);
        x.dig(0, 0, 0);
        int best = x.best(0);
        x.tell(0);
        Check.same("nobody has what is told", x.best(0), -1);
        Check.same("best(1)", x.best(1), -1);
        Check.same("best(-1)", x.best(-1), -1);
        return best;
    }

    private static void best() {
        // Telling gives 4 of 12, selling half of 9 less 3 of 12.
        Check.same("as without", bestOf(""), 0);
        Check.same("no risk", bestOf("risk 0;"), 1);
        String gets = "gets hidden finder 3;gets lost finder 3;gets buried finder 3;";
        Check.same("like: 3 of 12 against 6 less 3", bestOf("risk 2;" + gets), 0);
        Check.same("3 of 12 against 9 by 2 less 3 by 2", bestOf("risk 1;" + gets), 1);
        String no = "gets hidden finder 0;gets lost finder 0;gets buried finder 0;";
        Check.same("0 against 4 less 4", bestOf("risk 4;" + no), 0);
        Check.same("0 against 1 and a half", bestOf("risk 3;" + no), 1);
        Check.same("0 against less than 0", bestOf("risk 12;" + no), 0);
        // With the coin told, too, only 'lost' is left, by which the finder gets nothing.
        String tells = "hint hidden coin 0;hint buried coin 0;gets lost finder 0;gets hidden finder 12;";
        Check.same("with that find told, too", bestOf("risk 3;" + tells), 1);
        HiddenOrLost x = Check.withField("person a;find c coin 0 0 0 0 0;risk 0;" + no);
        x.dig(0, 0, 0);
        Check.same("no value: as much at least", x.best(0), 0);
    }
}
