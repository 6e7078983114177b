/** Promises 4, 5, 29 and 43: the text of a FIELD, its faults and what it tells. */
public final class FieldTest {
    private static final String TEN_FINDS = "find fa coin 0 0 0 0 0;find fb coin 0 0 0 0 0;find fc coin 0 0 0 0 0;find fd coin 0 0 0 0 0;"
        + "find fe coin 0 0 0 0 0;find ff coin 0 0 0 0 0;find fg coin 0 0 0 0 0;find fh coin 0 0 0 0 0;find fi coin 0 0 0 0 0;find fj coin 0 0 0 0 0;";

    private FieldTest() {
    }

    public static void main(String[] args) {
        tokens();
        numbers();
        names();
        onceOnly();
        tooMany();
        length();
        whatStays();
        whatIsTold();
        Check.close();
    }

    private static void tokens() {
        Faults.goodField(0, "");
        Faults.goodField(0, " \n ");
        Faults.goodField(1, "person a;");
        Faults.goodField(2, "\nperson\n a\n;person abcdefg ; ");
        Faults.goodField(1, "find x coin 003 3 9 999 99;");
        Faults.inField(1, "^;");
        Faults.inField(1, "person ^");
        Faults.inField(1, "person a  \n^");
        Faults.inField(1, "person a^");
        Faults.inField(1, "person a ^person b;");
        Faults.inField(1, "person ^abcdefgh;");
        Faults.inField(1, "person ^a1;");
        Faults.inField(1, "person ^1a;");
        Faults.inField(1, "person ^A;");
        Faults.inField(1, "person ^7;");
        Faults.inField(1, "person ^;");
        Faults.inField(1, "person a^.");
        Faults.inField(1, "person a;^.");
        Faults.inField(1, "^Person a;");
        Faults.inField(1, "^persona;");
        Faults.inField(1, "^7;");
        Faults.inField(1, "^told;");
        Faults.inField(1, "^ann;");
        Faults.inField(1, "person a;^\t person b;");
        Faults.inField(1, "person a;^\u0000");
        Faults.inField(1, "person a;^\u00e9;");
        Faults.inField(1, "risk ^0012;");
        Faults.inField(1, "risk ^x;");
        Faults.inField(1, "risk ^;");
        Faults.inField(1, "risk 1 ^2;");
        Faults.inField(1, "find a ^b 0 0 0 0 0;");
        Faults.inField(1, "find a ^hidden 0 0 0 0 0;");
        Faults.inField(1, "find a coin ^coin 0 0 0 0;");
        Faults.inField(1, "hint ^coin hidden 3;");
        Faults.inField(1, "hint hidden ^king 3;");
        Faults.inField(1, "gets hidden ^coin 3;");
        Faults.inField(1, "prior ^coin 3;");
        Faults.inField(1, "person a;risk 5^(");
        for (String word : ("coin pot lid bone hidden lost buried king finder owner digs told sold laid given plough night or and not ground found of "
            + "year value deep number").split(" ")) {
            Faults.inField(1, "^" + word + " 5;");
        }
    }

    private static void numbers() {
        Faults.goodField(1, "field 2 6;");
        Faults.inField(2, "field ^1 4;");
        Faults.inField(2, "field 4 ^7;");
        Faults.inField(2, "find a coin ^4 0 0 0 0;");
        Faults.inField(2, "find a coin 0 ^4 0 0 0;");
        Faults.inField(2, "field 2 6;find a coin ^2 0 0 0 0;");
        Faults.goodField(2, "field 2 6;find a coin 1 5 0 0 0;");
        Faults.inField(2, "find a coin 0 0 ^10 0 0;");
        Faults.inField(2, "find a coin 0 0 0 0 ^100;");
        Faults.inField(2, "fear a 5 ^4;");
        Faults.goodField(1, "fear a 5 5;");
        Faults.goodField(1, "fear a 0 999;");
        Faults.inField(2, "hint hidden coin ^13;");
        Faults.goodField(2, "hint hidden coin 12;hint hidden pot 0;");
        Faults.inField(2, "prior lost ^0;");
        Faults.inField(2, "prior lost ^100;");
        Faults.goodField(1, "prior lost 99;");
        Faults.inField(2, "gets lost king ^13;");
        Faults.inField(2, "risk ^13;");
        Faults.goodField(1, "risk 12;");
        Faults.inField(2, "risk ^13");
    }

    private static void names() {
        String[] reserved = ("field person find coin pot lid bone fear hint hidden lost buried prior gets king finder owner risk digs told sold "
            + "laid given plough night or and not ground found of year value deep number").split(" ");
        for (String word : reserved) {
            Faults.inField(1, "person ^" + word + ";");
        }
        Faults.goodField(3, "person reading;person kind;person role;");
        Faults.inField(3, "person a;person ^a;");
        Faults.inField(3, "person a;find ^a coin 0 0 0 0 0;");
        Faults.inField(3, "find a coin 0 0 0 0 0;fear ^a 0 0;");
        Faults.inField(3, "fear a 0 0;person ^a;");
        Faults.inField(3, "person a;person ^a");
    }

    private static void onceOnly() {
        Faults.inField(3, "field 4 4;^field 4 4;");
        Faults.inField(3, "find a coin 0 0 0 0 0;^field 4 4;");
        Faults.goodField(2, "person a;field 4 4;");
        Faults.inField(3, "risk 3;^risk 4;");
        Faults.inField(3, "prior lost 1;prior ^lost 1;");
        Faults.goodField(3, "prior lost 1;prior hidden 1;prior buried 1;");
        Faults.inField(3, "hint lost coin 1;hint lost ^coin 200;");
        Faults.goodField(3, "hint lost coin 1;hint lost pot 1;hint hidden coin 1;");
        Faults.inField(3, "gets lost owner 1;gets lost ^owner 1;");
        Faults.goodField(3, "gets lost owner 1;gets lost king 1;gets buried owner 1;");
        StringBuilder all = new StringBuilder("field 3 3;risk 3;");
        for (String reading : "hidden lost buried".split(" ")) {
            all.append("prior ").append(reading).append(" 3;");
            for (String kind : "coin pot lid bone".split(" ")) {
                all.append("hint ").append(reading).append(' ').append(kind).append(" 3;");
            }
            for (String role : "king finder owner".split(" ")) {
                all.append("gets ").append(reading).append(' ').append(role).append(" 3;");
            }
        }
        Faults.goodField(26, all.toString());
        oneBehindTheOther(all.toString());
    }

    /** What one field told is not told in the next ones. */
    private static void oneBehindTheOther(String all) {
        HiddenOrLost x = new HiddenOrLost();
        for (int i = 0; i < 3; i++) {
            Check.feed(x, all + "person a;find b coin 0 0 0 5 10;fear c 1 2;");
            Check.same("all that may be told", x.field(), 29);
            x.dig(0, 0, 0);
            x.tell(0);
            Check.same("a quarter", x.gains(1, 0) * 10 + x.gains(1, 1), 52);
        }
        for (int i = 0; i < 3; i++) {
            Check.feed(x, "person a;find b coin 3 3 0 5 10;");
            Check.same("little", x.field(), 2);
            Check.same("persons", x.count(0), 1);
            Check.same("finds", x.count(1), 1);
            Check.same("fears", x.count(2), 0);
            Check.same("wide", x.count(3), 4);
            Check.same("high", x.count(4), 4);
            Check.same("risk", x.count(5), 3);
            Check.same("sure as without hints", x.sure(2, 0) * 10 + x.sure(2, 1), 13);
            x.dig(0, 3, 3);
            x.tell(0);
            Check.same("a third", x.gains(2, 0) * 10 + x.gains(2, 1), 103);
        }
    }

    private static void tooMany() {
        String six = "person a;person b;person c;person d;person e;person f;";
        Faults.goodField(6, six);
        Faults.inField(4, six + "^person g;");
        Faults.inField(4, six + "^person a;");
        Faults.goodField(10, TEN_FINDS);
        Faults.inField(4, TEN_FINDS + "^find fk coin 0 0 0 0 0;");
        String fears = "fear a 0 0;fear b 0 0;fear c 0 0;fear d 0 0;fear e 0 0;fear f 0 0;";
        Faults.goodField(6, fears);
        Faults.inField(4, fears + "^fear g 0 0;");
        Faults.inField(4, fears + "^fear");
    }

    private static void length() {
        Faults.goodField(1, Faults.wide("person a;", 900));
        Faults.inField(1, Faults.wide("person a;", 900) + "^ ");
        Faults.inField(1, Faults.wide("person a;", 900) + "^person b;");
        Faults.inField(1, Faults.wide("person a", 900) + "^;");
        Faults.inField(1, Faults.wide("person a", 899) + " ^ ;");
        Faults.inField(1, Faults.wide("person ", 899) + "^abcdefgh;");
        Faults.inField(1, Faults.wide("person ", 899) + "a^bcdefg;");
        Faults.inField(3, Faults.wide("person abc;person ", 898) + "^abc;");
        Faults.inField(2, Faults.wide("risk ", 899) + "^13;");
        Faults.inField(1, Faults.wide("", 900) + "^" + Faults.wide("", 40));
        Faults.inField(1, Faults.wide("", 898) + "^;" + Faults.wide("", 41));
    }

    private static void whatStays() {
        HiddenOrLost x = Check.withField("person ann;find ring lid 1 1 0 400 9;risk 5;");
        x.dig(0, 1, 1);
        Check.sentence(x, "found");
        Check.feed(x, "person bob;;");
        Check.same("a fault", x.field(), -12);
        Check.same("the persons stay", x.count(0), 1);
        Check.same("the finds stay", x.find(0, 6), 1);
        Check.same("the sentence stays", x.said(0), 0);
        Check.same("the act can be undone still", x.undo(), 0);
        x.dig(0, 1, 1);
        x.nights(3, 3);
        x.plough(2);
        x.dig(0, 1, 1);
        Check.feed(x, "person bob;find urn pot 1 1 0 400 9;");
        Check.same("a new field", x.field(), 2);
        Check.same("night", x.now(0), 0);
        Check.same("all in the ground", x.now(1), 1);
        Check.same("nothing dug", x.cell(1, 1, 0), 0);
        Check.same("how often was dug", x.now(6), 0);
        Check.same("how often was ploughed", x.now(8), 0);
        Check.same("coin", x.now(5), 0);
        Check.same("how many were found", x.person(0, 3), 0);
        Check.same("who had it", x.find(0, 7), -1);
        Check.same("risk as without", x.count(5), 3);
        Check.same("no sentence", x.said(-1), -1);
        Check.same("nothing can be undone", x.undo(), -1);
    }

    private static void whatIsTold() {
        HiddenOrLost x = Check.withField("field 3 5;person a;person b;fear c 5 17;fear d 0 999;find e bone 2 4 9 123 45;risk 0;");
        Check.same("persons", x.count(0), 2);
        Check.same("finds", x.count(1), 1);
        Check.same("fears", x.count(2), 2);
        Check.same("wide", x.count(3), 3);
        Check.same("high", x.count(4), 5);
        Check.same("risk", x.count(5), 0);
        Check.same("bytes", x.count(6), 0);
        Check.same("count(7)", x.count(7), -1);
        Check.same("count(-1)", x.count(-1), -1);
        Check.same("fear from", x.fear(0, 0), 5);
        Check.same("fear to", x.fear(0, 1), 17);
        Check.same("fear d to", x.fear(1, 1), 999);
        Check.same("fear 2", x.fear(2, 0), -1);
        Check.same("fear -1", x.fear(-1, 0), -1);
        Check.same("fear what 2", x.fear(0, 2), -1);
        Check.same("fear what -1", x.fear(0, -1), -1);
        int[] facts = {3, 2, 4, 9, 123, 45, 0, -1};
        for (int what = 0; what < 8; what++) {
            Check.same("find " + what, x.find(0, what), facts[what]);
        }
    }
}
