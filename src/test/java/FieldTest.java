/** Promises 4, 5, 29 and 43: the text of a FIELD, its faults and what it tells. */
public final class FieldTest {
    private static final String TEN_FINDS = "find fa coin 0 0 0 0 0;find fb coin 0 0 0 0 0;find fc coin 0 0 0 0 0;find fd coin 0 0 0 0 0;"
        + "find fe coin 0 0 0 0 0;find ff coin 0 0 0 0 0;find fg coin 0 0 0 0 0;find fh coin 0 0 0 0 0;find fi coin 0 0 0 0 0;find fj coin 0 0 0 0 0;";

    private FieldTest() {
    }

    public static void main(String[] args) {
        tokens();
        numbers();
        names();
        onceOnly();
        tooMany();
        length();
        whatStays();
        whatIsTold();
        Check.close();
    }

    /** The text has a fault of that kind at the first place of the mark, which is taken out of it. */
    private static void fault(int kind, String marked) {
        int place = marked.indexOf('^');
        HiddenOrLost x = new HiddenOrLost();
        Check.feed(x, marked.substring(0, place) + marked.substring(place + 1));
        Check.same("place of the fault in " + marked, x.field(), -1 - place);
        Check.same("kind of the fault in " + marked, x.fault(), kind);
        Check.same("the tape is empty behind it", x.count(6), 0);
    }

    private static void good(int lines, String text) {
        HiddenOrLost x = new HiddenOrLost();
        Check.feed(x, text);
        Check.same("lines of " + text, x.field(), lines);
        Check.same("no fault in " + text, x.fault(), 0);
        Check.same("the tape is empty behind it", x.count(6), 0);
    }

    private static void tokens() {
        good(0, "");
        good(0, " \n ");
        good(1, "person a;");
        good(2, "\nperson\n a\n;person abcdefg ; ");
        good(1, "find x coin 003 3 9 999 99;");
        fault(1, "^;");
        fault(1, "person ^");
        fault(1, "person a  \n^");
        fault(1, "person a^");
        fault(1, "person a ^person b;");
        fault(1, "person ^abcdefgh;");
        fault(1, "person ^a1;");
        fault(1, "person ^1a;");
        fault(1, "person ^A;");
        fault(1, "person ^7;");
        fault(1, "person ^;");
        fault(1, "person a^.");
        fault(1, "person a;^.");
        fault(1, "^Person a;");
        fault(1, "^persona;");
        fault(1, "^7;");
        fault(1, "^told;");
        fault(1, "^ann;");
        fault(1, "person a;^\t person b;");
        fault(1, "person a;^\u0000");
        fault(1, "person a;^\u00e9;");
        fault(1, "risk ^0012;");
        fault(1, "risk ^x;");
        fault(1, "risk ^;");
        fault(1, "risk 1 ^2;");
        fault(1, "find a ^b 0 0 0 0 0;");
        fault(1, "find a ^hidden 0 0 0 0 0;");
        fault(1, "find a coin ^coin 0 0 0 0;");
        fault(1, "hint ^coin hidden 3;");
        fault(1, "hint hidden ^king 3;");
        fault(1, "gets hidden ^coin 3;");
        fault(1, "prior ^coin 3;");
        fault(1, "person a;risk 5^(");
        for (String word : ("coin pot lid bone hidden lost buried king finder owner digs told sold laid given plough night or and not ground found of "
            + "year value deep number").split(" ")) {
            fault(1, "^" + word + " 5;");
        }
    }

    private static void numbers() {
        good(1, "field 2 6;");
        fault(2, "field ^1 4;");
        fault(2, "field 4 ^7;");
        fault(2, "find a coin ^4 0 0 0 0;");
        fault(2, "find a coin 0 ^4 0 0 0;");
        fault(2, "field 2 6;find a coin ^2 0 0 0 0;");
        good(2, "field 2 6;find a coin 1 5 0 0 0;");
        fault(2, "find a coin 0 0 ^10 0 0;");
        fault(2, "find a coin 0 0 0 0 ^100;");
        fault(2, "fear a 5 ^4;");
        good(1, "fear a 5 5;");
        good(1, "fear a 0 999;");
        fault(2, "hint hidden coin ^13;");
        good(2, "hint hidden coin 12;hint hidden pot 0;");
        fault(2, "prior lost ^0;");
        fault(2, "prior lost ^100;");
        good(1, "prior lost 99;");
        fault(2, "gets lost king ^13;");
        fault(2, "risk ^13;");
        good(1, "risk 12;");
        fault(2, "risk ^13");
    }

    private static void names() {
        String[] reserved = ("field person find coin pot lid bone fear hint hidden lost buried prior gets king finder owner risk digs told sold "
            + "laid given plough night or and not ground found of year value deep number").split(" ");
        for (String word : reserved) {
            fault(1, "person ^" + word + ";");
        }
        good(3, "person reading;person kind;person role;");
        fault(3, "person a;person ^a;");
        fault(3, "person a;find ^a coin 0 0 0 0 0;");
        fault(3, "find a coin 0 0 0 0 0;fear ^a 0 0;");
        fault(3, "fear a 0 0;person ^a;");
        fault(3, "person a;person ^a");
    }

    private static void onceOnly() {
        fault(3, "field 4 4;^field 4 4;");
        fault(3, "find a coin 0 0 0 0 0;^field 4 4;");
        good(2, "person a;field 4 4;");
        fault(3, "risk 3;^risk 4;");
        fault(3, "prior lost 1;prior ^lost 1;");
        good(3, "prior lost 1;prior hidden 1;prior buried 1;");
        fault(3, "hint lost coin 1;hint lost ^coin 200;");
        good(3, "hint lost coin 1;hint lost pot 1;hint hidden coin 1;");
        fault(3, "gets lost owner 1;gets lost ^owner 1;");
        good(3, "gets lost owner 1;gets lost king 1;gets buried owner 1;");
        StringBuilder all = new StringBuilder("field 3 3;risk 3;");
        for (String reading : "hidden lost buried".split(" ")) {
            all.append("prior ").append(reading).append(" 3;");
            for (String kind : "coin pot lid bone".split(" ")) {
                all.append("hint ").append(reading).append(' ').append(kind).append(" 3;");
            }
            for (String role : "king finder owner".split(" ")) {
                all.append("gets ").append(reading).append(' ').append(role).append(" 3;");
            }
        }
        good(26, all.toString());
        oneBehindTheOther(all.toString());
    }

    /** What one field told is not told in the next ones. */
    private static void oneBehindTheOther(String all) {
        HiddenOrLost x = new HiddenOrLost();
        for (int i = 0; i < 3; i++) {
            Check.feed(x, all + "person a;find b coin 0 0 0 5 10;fear c 1 2;");
            Check.same("all that may be told", x.field(), 29);
            x.dig(0, 0, 0);
            x.tell(0);
            Check.same("a quarter", x.gains(1, 0) * 10 + x.gains(1, 1), 52);
        }
        for (int i = 0; i < 3; i++) {
            Check.feed(x, "person a;find b coin 3 3 0 5 10;");
            Check.same("little", x.field(), 2);
            Check.same("persons", x.count(0), 1);
            Check.same("finds", x.count(1), 1);
            Check.same("fears", x.count(2), 0);
            Check.same("wide", x.count(3), 4);
            Check.same("high", x.count(4), 4);
            Check.same("risk", x.count(5), 3);
            Check.same("sure as without hints", x.sure(2, 0) * 10 + x.sure(2, 1), 13);
            x.dig(0, 3, 3);
            x.tell(0);
            Check.same("a third", x.gains(2, 0) * 10 + x.gains(2, 1), 103);
        }
    }

    private static void tooMany() {
        String six = "person a;person b;person c;person d;person e;person f;";
        good(6, six);
        fault(4, six + "^person g;");
        fault(4, six + "^person a;");
        good(10, TEN_FINDS);
        fault(4, TEN_FINDS + "^find fk coin 0 0 0 0 0;");
        String fears = "fear a 0 0;fear b 0 0;fear c 0 0;fear d 0 0;fear e 0 0;fear f 0 0;";
        good(6, fears);
        fault(4, fears + "^fear g 0 0;");
        fault(4, fears + "^fear");
    }

    private static String wide(String text, int bytes) {
        StringBuilder wide = new StringBuilder(text);
        while (wide.length() < bytes) {
            wide.insert(0, ' ');
        }
        return wide.toString();
    }

    private static void length() {
        good(1, wide("person a;", 900));
        fault(1, wide("person a;", 900) + "^ ");
        fault(1, wide("person a;", 900) + "^person b;");
        fault(1, wide("person a", 900) + "^;");
        fault(1, wide("person a", 899) + " ^ ;");
        fault(1, wide("person ", 899) + "^abcdefgh;");
        fault(1, wide("person ", 899) + "a^bcdefg;");
        fault(3, wide("person abc;person ", 898) + "^abc;");
        fault(2, wide("risk ", 899) + "^13;");
        fault(1, wide("", 900) + "^" + wide("", 40));
        fault(1, wide("", 898) + "^;" + wide("", 41));
    }

    private static void whatStays() {
        HiddenOrLost x = Check.withField("person ann;find ring lid 1 1 0 400 9;risk 5;");
        x.dig(0, 1, 1);
        Check.sentence(x, "found");
        Check.feed(x, "person bob;;");
        Check.same("a fault", x.field(), -12);
        Check.same("the persons stay", x.count(0), 1);
        Check.same("the finds stay", x.find(0, 6), 1);
        Check.same("the sentence stays", x.said(0), 0);
        Check.same("the act can be undone still", x.undo(), 0);
        x.dig(0, 1, 1);
        x.nights(3, 3);
        x.plough(2);
        x.dig(0, 1, 1);
        Check.feed(x, "person bob;find urn pot 1 1 0 400 9;");
        Check.same("a new field", x.field(), 2);
        Check.same("night", x.now(0), 0);
        Check.same("all in the ground", x.now(1), 1);
        Check.same("nothing dug", x.cell(1, 1, 0), 0);
        Check.same("how often was dug", x.now(6), 0);
        Check.same("how often was ploughed", x.now(8), 0);
        Check.same("coin", x.now(5), 0);
        Check.same("how many were found", x.person(0, 3), 0);
        Check.same("who had it", x.find(0, 7), -1);
        Check.same("risk as without", x.count(5), 3);
        Check.same("no sentence", x.said(-1), -1);
        Check.same("nothing can be undone", x.undo(), -1);
    }

    private static void whatIsTold() {
        HiddenOrLost x = Check.withField("field 3 5;person a;person b;fear c 5 17;fear d 0 999;find e bone 2 4 9 123 45;risk 0;");
        Check.same("persons", x.count(0), 2);
        Check.same("finds", x.count(1), 1);
        Check.same("fears", x.count(2), 2);
        Check.same("wide", x.count(3), 3);
        Check.same("high", x.count(4), 5);
        Check.same("risk", x.count(5), 0);
        Check.same("bytes", x.count(6), 0);
        Check.same("count(7)", x.count(7), -1);
        Check.same("count(-1)", x.count(-1), -1);
        Check.same("fear from", x.fear(0, 0), 5);
        Check.same("fear to", x.fear(0, 1), 17);
        Check.same("fear d to", x.fear(1, 1), 999);
        Check.same("fear 2", x.fear(2, 0), -1);
        Check.same("fear -1", x.fear(-1, 0), -1);
        Check.same("fear what 2", x.fear(0, 2), -1);
        Check.same("fear what -1", x.fear(0, -1), -1);
        int[] facts = {3, 2, 4, 9, 123, 45, 0, -1};
        for (int what = 0; what < 8; what++) {
            Check.same("find " + what, x.find(0, what), facts[what]);
        }
    }
}
