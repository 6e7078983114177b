/** The sentences under 'Terms' that tell of FAULTS: their kinds, their places and which of them is told. */
final class FaultBounds {
    private static final String FORTY = "plough 7;".repeat(40);
    private static final String TWENTY = "lid or ".repeat(20);

    private FaultBounds() {
    }

    static void run() {
        first();
        least();
        noToken();
        theEnd();
        tooLong();
        readWhole();
        badNumbers();
        badNames();
        toldOnce();
        tooMany();
    }

    private static void first() {
        Bounds.terms("FAULTS, the first along the text,", () -> {
            Faults.inField(3, "person a;person ^a;risk 13;.");
            Faults.inField(2, "risk ^13;person a;person a;");
            Faults.inField(1, "person a^.;risk 13;");
            Faults.inField(4, "person a;person b;person c;person d;person e;person f;^person a;risk 13;");
            Faults.inField(2, "find a coin ^4 4 10 0 100;");
            Faults.inField(2, "find a coin 0 0 ^10 0 100;");
            Faults.inField(3, "hint lost pot 1;hint lost ^pot 13;");
            Faults.inField(2, "hint lost pot ^13;hint lost pot 13;");
            Faults.inBook(2, "ann digs ^6 6;zoe digs 0 0;");
            Faults.inBook(3, "^zoe digs 6 6;");
            Faults.inBook(4, FORTY + "^ann digs 6 6;");
            Faults.inSentence(3, "of ^zoe and.");
            Faults.inSentence(4, TWENTY + "^lid or of zoe");
            Faults.inSentence(3, "lid or ".repeat(19) + "of ^zoe or lid");
        });
    }

    private static void least() {
        Bounds.terms("of one TOKEN the least:", () -> {
            Faults.inBook(1, FORTY + "^.");
            Faults.inBook(1, FORTY + "^;");
            Faults.inBook(1, FORTY + "^told;");
            Faults.inBook(1, FORTY + "^persons7;");
            Faults.inBook(3, FORTY + "^zoe digs 0 0;");
            Faults.inBook(3, FORTY + "^war told;");
            Faults.inSentence(1, TWENTY + "^.");
            Faults.inSentence(1, TWENTY + "^zoe");
            Faults.inSentence(1, TWENTY + "^)");
            Faults.inSentence(1, "not ".repeat(8) + "^and");
            Faults.inSentence(1, "(".repeat(8) + "^)");
            Faults.inField(1, "person ^999;");
            Faults.inField(1, "risk ^9999;");
        });
    }

    private static void noToken() {
        Bounds.terms("1 no TOKEN, or one that can't come (at it;", () -> {
            Faults.inField(1, "^.");
            Faults.inField(1, "person a;  ^.");
            Faults.inField(1, "person a;^told;");
            Faults.inField(1, "person a;^b;");
            Faults.inField(1, "person a;^3;");
            Faults.inBook(1, "ann ^told;");
            Faults.inSentence(1, "coin  \n ^coin");
        });
    }

    private static void theEnd() {
        Bounds.terms("the end: how many bytes there are;", () -> {
            Faults.inField(1, "person^");
            Faults.inField(1, "person a^");
            Faults.inField(1, "person a \n ^");
            Faults.inField(1, Faults.wide("person a", 899) + "^");
            Faults.inField(1, Faults.wide("person a", 900) + "^");
            Faults.inBook(1, "ann digs 0^");
            Faults.inBook(1, Faults.wide("ann", 400) + "^");
            Faults.inSentence(1, "^");
            Faults.inSentence(1, "   ^");
            Faults.inSentence(1, "(coin ^");
            Faults.inSentence(1, Faults.wide("not", 200) + "^");
        });
    }

    private static void tooLong() {
        Bounds.terms("the most bytes told, if there are more and no FAULT is ahead:", () -> {
            Faults.inField(1, Faults.wide("person a;", 900) + "^ ");
            Faults.inField(1, Faults.wide("person a;", 890) + " ".repeat(10) + "^" + " ".repeat(40));
            Faults.inField(1, Faults.wide("person a;person", 900) + "^ a;");
            Faults.inField(1, Faults.wide("person a", 895) + "     ^     ;");
            Faults.inField(1, " ".repeat(900) + "^;");
            Faults.inField(3, Faults.wide("person a;person ^a;", 901) + " ".repeat(20));
            Faults.inField(2, Faults.wide("risk ^13;", 901) + ".");
            Faults.inBook(1, Faults.wide("plough 7;", 400) + "^ ");
            Faults.inBook(1, Faults.wide("plough", 400) + "^ 7;");
            Faults.inBook(2, Faults.wide("night ^31", 401) + ";");
            Faults.inBook(1, " ".repeat(400) + "^zoe told;");
            Faults.inSentence(1, Faults.wide("coin", 200) + "^ ");
            Faults.inSentence(1, Faults.wide("not", 200) + "^ coin");
            Faults.inSentence(3, Faults.wide("of ^zoe", 201) + " ");
            Faults.inSentence(1, Faults.wide("coin ^lid", 201) + " ");
        });
    }

    private static void readWhole() {
        Bounds.terms("TOKENS that begin ahead of it are read whole);", () -> {
            // Cut at the most bytes, the name would be 'a', which was not told.
            Faults.inField(3, Faults.wide("person abc;person ", 899) + "^abc;");
            Faults.inField(1, Faults.wide("person abc;person ", 899) + "a^bd;");
            Faults.inField(1, Faults.wide("person abc;person ", 900) + "^abc;");
            Faults.inField(1, Faults.wide("person ", 899) + "^abcdefgh;");
            Faults.inField(1, Faults.wide("person ", 899) + "a^bcdefg;");
            Faults.inField(1, Faults.wide("", 899) + "^persona;");
            Faults.inField(2, Faults.wide("risk ", 899) + "^13;");
            Faults.inField(1, Faults.wide("risk ", 899) + "1^2;");
            Faults.inField(1, Faults.wide("risk ", 898) + "^1234;");
            Faults.inBook(3, " ".repeat(399) + "^annb digs 0 0;");
            Faults.inBook(1, " ".repeat(399) + "a^nn digs 0 0;");
            Faults.inBook(1, " ".repeat(400) + "^annb digs 0 0;");
            Faults.inBook(2, Faults.wide("night ", 399) + "^31;");
            Faults.inBook(1, Faults.wide("night ", 399) + "3^0;");
            Faults.inSentence(1, " ".repeat(199) + "c^oin");
            Faults.inSentence(1, " ".repeat(199) + "^coins");
            Faults.inSentence(3, Faults.wide("of ", 199) + "^annb");
            Faults.inSentence(1, Faults.wide("of ", 199) + "a^nn");
            Faults.inSentence(1, Faults.wide("of ", 200) + "^annb");
        });
    }

    private static void badNumbers() {
        Bounds.terms("2 a NUMBER that is not as told (at it);", () -> {
            Faults.inField(2, "field ^1 4;");
            Faults.inField(2, "field 4 ^007;");
            Faults.inField(2, "find a coin ^4 0 0 0 0;");
            Faults.inField(2, "find a coin 0 ^4 0 0 0;");
            Faults.inField(2, "find a coin 0 0 ^10 0 0;");
            Faults.inField(2, "find a coin 0 0 0 0 ^100;");
            Faults.inField(2, "fear a 7 ^6;");
            Faults.inField(2, "hint lost lid ^13;");
            Faults.inField(2, "prior lost ^0;");
            Faults.inField(2, "prior lost ^100;");
            Faults.inField(2, "gets lost king ^13;");
            Faults.inField(2, "risk ^13;");
            Faults.inBook(2, "ann digs ^6 0;");
            Faults.inBook(2, "ann digs 0 ^6;");
            Faults.inBook(2, "ring laid ^6 0;");
            Faults.inBook(2, "ring laid 0 ^6;");
            Faults.inBook(2, "night ^0;");
            Faults.inBook(2, "night ^31;");
        });
    }

    private static void badNames() {
        Bounds.terms("3 a NAME told twice, not told, or of another sort,", () -> {
            Faults.inField(3, "person a;person ^a;");
            Faults.inField(3, "person a;find ^a coin 0 0 0 0 0;");
            Faults.inField(3, "person a;fear ^a 0 0;");
            Faults.inField(3, "find a coin 0 0 0 0 0;find ^a coin 0 0 0 0 0;");
            Faults.inField(3, "fear a 0 0;fear ^a 0 0;");
            Faults.inBook(3, "^zoe digs 0 0;");
            Faults.inBook(3, "^war digs 0 0;");
            Faults.inBook(3, "ring given ^zoe;");
            Faults.inBook(3, "ring given ^urn;");
            Faults.inBook(3, "ring given ^ring;");
            Faults.inBook(3, "ring given ^war;");
            Faults.inSentence(3, "of ^zoe");
            Faults.inSentence(3, "of ^ring");
            Faults.inSentence(3, "of ^war");
            Faults.goodSentence(1, "of bob");
        });
    }

    private static void toldOnce() {
        Bounds.terms("what is told once told again (at the second of the two: the KIND, the ROLE; of 'prior' at the READING;", () -> {
            for (String reading : TextBounds.READINGS) {
                for (String kind : TextBounds.KINDS) {
                    Faults.inField(3, "hint " + reading + " " + kind + " 0;hint " + reading + " ^" + kind + " 0;");
                }
                for (String role : TextBounds.ROLES) {
                    Faults.inField(3, "gets " + reading + " " + role + " 0;gets " + reading + " ^" + role + " 0;");
                }
                Faults.inField(3, "prior " + reading + " 1;prior ^" + reading + " 1;");
            }
            Faults.goodField(2, "hint hidden coin 0;hint lost coin 0;");
            Faults.goodField(2, "hint hidden coin 0;hint hidden pot 0;");
            Faults.goodField(2, "gets hidden king 0;gets lost king 0;");
            Faults.goodField(2, "gets hidden king 0;gets hidden owner 0;");
        });
        Bounds.terms("'field', 'risk' at the WORD), 'field' behind a find (at it);", () -> {
            Faults.inField(3, "field 4 4;^field 4 4;");
            Faults.inField(3, "field 4 4;^field 9 9;");
            Faults.inField(3, "risk 0;^risk 0;");
            Faults.inField(3, "risk 0;^risk");
            Faults.inField(3, "find a coin 0 0 0 0 0;^field 4 4;");
            Faults.inField(3, "field 4 4;find a coin 0 0 0 0 0;^field 4 4;");
        });
    }

    private static void tooMany() {
        Bounds.terms("4 one more than there may be of a sort, a 41st LINE of a BOOK (both at the LINE's first WORD),", () -> {
            String persons = "person a;person b;person c;person d;person e;person f;";
            Faults.inField(4, persons + "^person g;");
            Faults.inField(4, persons + "^person a;");
            Faults.inField(4, persons + "^person;");
            Faults.goodField(7, persons + "fear g 0 0;");
            String fears = "fear a 0 0;fear b 0 0;fear c 0 0;fear d 0 0;fear e 0 0;fear f 0 0;";
            Faults.inField(4, fears + "^fear g 9 0;");
            Faults.goodField(7, fears + "person g;");
            StringBuilder finds = new StringBuilder();
            for (char name = 'a'; name <= 'j'; name++) {
                finds.append("find ").append(name).append(" coin 0 0 0 0 0;");
            }
            Faults.inField(4, finds + "^find 7;");
            Faults.goodField(11, finds + "person k;");
            Faults.inBook(4, FORTY + "^plough 7;");
            Faults.inBook(4, FORTY + "^night 0;");
            Faults.inBook(4, FORTY + "^ann");
            Faults.inBook(4, FORTY + "^urn given zoe;");
        });
        Bounds.terms("a 21st ONE, a ninth within (at its first TOKEN).", () -> {
            for (String one : "coin told ground found sold not ( of year value deep number pot lid bone".split(" ")) {
                Faults.inSentence(4, TWENTY + "^" + one);
                Faults.inSentence(4, "not ".repeat(8) + "^" + one);
                Faults.inSentence(4, "( ".repeat(8) + "^" + one);
            }
            Faults.inSentence(4, "lid or ".repeat(19) + "not ^lid");
            Faults.inSentence(4, "lid or ".repeat(19) + "(^lid)");
        });
    }
}
