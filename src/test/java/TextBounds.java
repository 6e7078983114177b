/** The sentences under 'Terms' that tell of TOKENS and of the texts: FIELD, BOOK and SENTENCE. */
final class TextBounds {
    static final String[] READINGS = {"hidden", "lost", "buried"};
    static final String[] KINDS = {"coin", "pot", "lid", "bone"};
    static final String[] ROLES = {"king", "finder", "owner"};
    static final String[] RESERVED = ("field person find coin pot lid bone fear hint hidden lost buried prior gets king finder owner risk "
        + "digs told sold laid given plough night or and not ground found of year value deep number").split(" ");

    private TextBounds() {
    }

    static void run() {
        blanks();
        words();
        numbers();
        signs();
        runs();
        fieldText();
        sizes();
        finds();
        fears();
        hints();
        priors();
        shares();
        risk();
        names();
        howMany();
        numbering();
        bookText();
        bookLines();
        bookNumbers();
        sentenceText();
        sentenceWords();
        sentenceOnes();
    }

    private static boolean among(String word, String words) {
        return (" " + words + " ").contains(" " + word + " ");
    }

    private static boolean isRun(int sign) {
        return sign >= 'a' && sign <= 'z' || sign >= '0' && sign <= '9';
    }

    private static void blanks() {
        Bounds.terms("TOKENS of all texts, with blanks (32, 10) between them or not:", () -> {
            Faults.goodField(2, "person a;person b;");
            Faults.goodField(2, "\n \nperson\na ; \n person  \n\n  b\n;\n\n ");
            Faults.goodBook(2, "\nann\ndigs 0\n0;plough\n\n7 ; ");
            Faults.goodSentence(3, "\n( coin )\nor year < 4 ");
            Faults.goodSentence(4, "(coin)or(year<4)");
            for (int sign = 0; sign < 256; sign++) {
                String text = "person a;" + (char) sign + "person b;";
                if (sign == 32 || sign == 10) {
                    Faults.goodField(2, text);
                } else {
                    Faults.inField(1, 9, text);
                }
            }
        });
    }

    private static void words() {
        Bounds.terms("WORDS: small letters, 1 to 7;", () -> {
            Faults.goodField(2, "person a;person z;");
            Faults.goodField(3, "person abcdefg;person tuvwxyz;person abcdef;");
            Faults.inField(1, "person ^;");
            Faults.inField(1, "person ^abcdefgh;");
            Faults.inField(1, "person ^abcdefghabcdefgh;");
            Faults.inField(1, "person ^persons1;");
            for (char sign : new char[] {'a' - 1, 'z' + 1, 'A', 'Z', 'a' + 128}) {
                Faults.inField(1, 7, "person " + sign + ";");
            }
            for (int i = 0; i < 7; i++) {
                StringBuilder other = new StringBuilder("aaaaaaa");
                other.setCharAt(i, 'b');
                Faults.goodField(2, "person aaaaaaa;person " + other + ";");
            }
        });
    }

    private static void numbers() {
        Bounds.terms("NUMBERS: 1 to 3 digits;", () -> {
            HiddenOrLost x = Check.withField("find a coin 0 00 000 009 89;fear b 1 023;fear c 456 789;");
            Check.same("9 as 009", x.find(0, 4), 9);
            Check.same("of two digits", x.find(0, 5), 89);
            Check.same("of one digit", x.fear(0, 0), 1);
            Check.same("23 as 023", x.fear(0, 1), 23);
            Check.same("of three digits", x.fear(1, 0), 456);
            Check.same("of three more", x.fear(1, 1), 789);
            Faults.inField(2, "risk ^999;");
            Faults.inField(1, "risk ^0001;");
            Faults.inField(1, "risk ^1000;");
            Faults.inField(1, "risk ^;");
            Faults.inField(1, "risk ^00000000000000000000000003;");
            Faults.inField(1, 5, "risk " + (char) ('0' - 1) + ";");
            Faults.inField(1, 5, "risk " + (char) ('9' + 1) + ";");
        });
    }

    private static void signs() {
        Bounds.terms("; < = > ( ) .", () -> {
            for (int sign = 0; sign < 256; sign++) {
                boolean isBlank = sign == 32 || sign == 10;
                boolean isRun = isRun(sign);
                String compare = "year" + (char) sign + "5";
                if (sign == '<' || sign == '=' || sign == '>') {
                    Faults.goodSentence(1, compare);
                } else {
                    Faults.inSentence(1, isRun ? 0 : isBlank ? 5 : 4, compare);
                }
                String line = "person a" + (char) sign;
                boolean isDigit = isRun && sign < 'a';
                if (sign == ';') {
                    Faults.goodField(1, line);
                } else {
                    Faults.inField(1, isDigit ? 7 : isRun || isBlank ? 9 : 8, line);
                }
                String open = (char) sign + "coin)";
                if (sign == '(') {
                    Faults.goodSentence(2, open);
                } else {
                    Faults.inSentence(1, isBlank ? 5 : 0, open);
                }
                String shut = "(coin" + (char) sign;
                if (sign == ')') {
                    Faults.goodSentence(2, shut);
                } else {
                    Faults.inSentence(1, isRun ? 1 : isBlank ? 6 : 5, shut);
                }
            }
        });
    }

    private static void runs() {
        Bounds.terms("(A WORD, NUMBER goes on as long as small letters and digits do;", () -> {
            Faults.inField(1, "person ^a1;");
            Faults.inField(1, "risk ^1a;");
            Faults.inField(1, "^risk3;");
            Faults.inField(1, "^persona;");
            Faults.inField(1, "fear a ^1b2;");
            Faults.inField(1, "person a^A;");
            Faults.inField(1, "risk 3^<4;");
            Faults.goodSentence(1, "year<4");
        });
        Bounds.terms("what is not as told is no TOKEN.)", () -> {
            for (char sign : new char[] {0, 1, 9, 11, 13, 31, 33, '"', '\'', '*', '+', ',', '-', '/', ':', '?', '@', 'A', '[', '_', '`', '{', '~', 127, 128, 160, 255}) {
                Faults.inField(1, 0, sign + "person a;");
                Faults.inBook(1, 5, "ann  " + sign + "digs 0 0;");
                Faults.inSentence(1, 5, "coin " + sign);
            }
            Faults.inField(1, "person a;^person8 b;");
        });
    }

    /** A FIELD that tells all that may be told, once each: 48 LINES. */
    static String fullest() {
        StringBuilder text = new StringBuilder("field 6 6;risk 3;");
        for (int i = 0; i < 6; i++) {
            text.append("person p").append((char) ('a' + i)).append(";fear w").append((char) ('a' + i)).append(" 0 9;");
        }
        for (int i = 0; i < 10; i++) {
            text.append("find ").append((char) ('a' + i)).append(" lid 0 0 0 0 0;");
        }
        for (String reading : READINGS) {
            text.append("prior ").append(reading).append(" 1;");
            for (String kind : KINDS) {
                text.append("hint ").append(reading).append(' ').append(kind).append(" 6;");
            }
            for (String role : ROLES) {
                text.append("gets ").append(reading).append(' ').append(role).append(" 4;");
            }
        }
        return text.toString();
    }

    private static void fieldText() {
        Bounds.terms("A FIELD is a text of at most 900 bytes:", () -> {
            Faults.goodField(0, "");
            Faults.goodField(1, Faults.wide("person a;", 899));
            Faults.goodField(1, Faults.wide("person a;", 900));
            Faults.inField(1, "" + Faults.wide("person a;", 900) + "^ ");
            Faults.inField(1, Faults.wide("person a;", 900) + "^" + " ".repeat(40));
            Faults.goodField(48, Faults.wide(fullest(), 900));
            for (String sign : "; ( ) < = > . A \u00ff".split(" ")) {
                Faults.inField(1, 0, sign.repeat(900));
                Faults.inField(1, 0, sign.repeat(940));
            }
            Faults.inField(1, 0, "a".repeat(940));
            Faults.inField(1, 0, "1".repeat(940));
            Faults.inField(1, 899, " ".repeat(899) + "a".repeat(41));
        });
        Bounds.terms("{ LINE ; }. LINE:", () -> {
            Faults.goodField(0, "\n  ");
            Faults.goodField(48, fullest());
            for (String word : RESERVED) {
                if (!among(word, "field person find fear hint prior gets risk")) {
                    Faults.inField(1, "^" + word + " 5;");
                    Faults.inField(1, "person a;^" + word + ";");
                }
            }
            String[] lines = {"field 5 5", "person a", "find a coin 0 0 0 0 0", "fear a 0 0", "hint lost coin 5", "prior lost 5", "gets lost king 5", "risk 5"};
            for (String line : lines) {
                Faults.goodField(1, line + ";");
                Faults.stopping((place, text) -> Faults.inField(1, place, text), line);
            }
            Faults.inField(1, "^;");
            Faults.inField(1, "person a;^;");
            Faults.inField(1, "person a^");
            Faults.inField(1, "person a ^person b;");
        });
        Bounds.terms("| 'person' NAME |", () -> {
            Faults.goodField(1, "person a;");
            Faults.inField(1, "person^");
            Faults.inField(1, "person ^7;");
            Faults.inField(1, "person a ^b;");
        });
    }

    private static void sizes() {
        Bounds.terms("'field' WIDE HIGH (2 to 6 each;", () -> {
            for (int wide = 0; wide < 10; wide++) {
                for (int high = 0; high < 10; high++) {
                    String text = "field " + wide + " " + high + ";";
                    if (wide < 2 || wide > 6) {
                        Faults.inField(2, 6, text);
                    } else if (high < 2 || high > 6) {
                        Faults.inField(2, 8, text);
                    } else {
                        isSoWide(Check.withField(text), wide, high);
                    }
                }
            }
            Faults.inField(2, "field ^999 4;");
            Faults.inField(2, "field 4 ^100;");
            Faults.inField(1, "field 4^;");
            Faults.inField(1, "field 4 4 ^4;");
        });
        Bounds.terms("once, ahead of all finds)", () -> {
            Faults.inField(3, "field 5 5;^field 5 5;");
            Faults.inField(3, "find a coin 0 0 0 0 0;^field 5 5;");
            Faults.inField(3, "find a coin 0 0 0 0 0;person b;^field 4 4;");
            Faults.goodField(8, "person a;fear b 0 0;hint lost pot 3;prior lost 3;gets lost king 3;risk 3;field 2 2;find c coin 1 1 0 0 0;");
        });
    }

    private static void isSoWide(HiddenOrLost x, int wide, int high) {
        Check.same("wide", x.count(3), wide);
        Check.same("high", x.count(4), high);
        Check.same("the last cell", x.cell(wide - 1, high - 1, 0), 0);
        Check.same("beyond by X", x.cell(wide, 0, 0), -1);
        Check.same("beyond by Y", x.cell(0, high, 0), -1);
    }

    private static void finds() {
        Bounds.terms("'find' NAME KIND X Y DEEP YEAR VALUE", () -> {
            HiddenOrLost x = Check.withField("find a pot 2 3 4 5 6;");
            int[] due = {1, 2, 3, 4, 5, 6};
            for (int what = 0; what < 6; what++) {
                Check.same("find(0, " + what + ")", x.find(0, what), due[what]);
            }
            Faults.inField(1, "find a pot 2 3 4 5^;");
            Faults.inField(1, "find a pot 2 3 4 5 6 ^7;");
            Faults.inField(1, "find ^7 pot 2 3 4 5 6;");
        });
        Bounds.terms("(KIND: 'coin', 'pot', 'lid', 'bone';", () -> {
            for (String kind : KINDS) {
                Faults.goodField(1, "find a " + kind + " 0 0 0 0 0;");
            }
            for (String word : RESERVED) {
                if (!among(word, "coin pot lid bone")) {
                    Faults.inField(1, "find a ^" + word + " 0 0 0 0 0;");
                }
            }
            Faults.inField(1, "find a ^b 0 0 0 0 0;");
            Faults.inField(1, "find a ^7 0 0 0 0 0;");
        });
        Bounds.terms("X 0 to WIDE less 1, Y 0 to HIGH less 1: 4 by 4 without 'field';", () -> {
            for (int wide = 2; wide <= 6; wide++) {
                for (int high = 2; high <= 6; high++) {
                    String ahead = "field " + wide + " " + high + ";find a coin ";
                    Faults.goodField(2, ahead + (wide - 1) + " " + (high - 1) + " 0 0 0;");
                    Faults.inField(2, ahead + "^" + wide + " 0 0 0 0;");
                    Faults.inField(2, ahead + "0 ^" + high + " 0 0 0;");
                }
            }
            Faults.goodField(2, "find a coin 0 0 0 0 0;find b coin 3 3 0 0 0;");
            Faults.inField(2, "find a coin ^4 0 0 0 0;");
            Faults.inField(2, "find a coin 0 ^4 0 0 0;");
            isSoWide(Check.withField("person a;"), 4, 4);
        });
        Bounds.terms("0 to 9, 0 to 999, 0 to 99)", () -> {
            Faults.goodField(2, "find a coin 0 0 0 0 0;find b coin 0 0 9 999 99;");
            Faults.inField(2, "find a coin 0 0 ^10 0 0;");
            Faults.inField(1, "find a coin 0 0 0 ^1000 0;");
            Faults.inField(2, "find a coin 0 0 0 0 ^100;");
        });
    }

    private static void fears() {
        Bounds.terms("'fear' NAME FROM TO (0 to 999; FROM to 999: YEARS)", () -> {
            Faults.goodField(3, "fear a 0 0;fear b 999 999;fear c 0 999;");
            Faults.goodField(1, "fear a 500 500;");
            Faults.inField(2, "fear a 500 ^499;");
            Faults.inField(2, "fear a 999 ^998;");
            Faults.inField(2, "fear a 1 ^0;");
            Faults.inField(1, "fear a ^1000 999;");
            Faults.inField(1, "fear a 0 ^1000;");
            Faults.inField(1, "fear a 5^;");
            Faults.inField(1, "fear ^5 5;");
        });
    }

    /** One find of that KIND is found and told, by that FIELD's LINES. */
    private static HiddenOrLost told(String kind, String lines) {
        HiddenOrLost x = Check.withField(lines + "person p;find q " + kind + " 0 0 0 0 99;");
        x.dig(0, 0, 0);
        Check.same("tell", x.tell(0), 0);
        return x;
    }

    private static void belief(HiddenOrLost x, int r, long above, long below) {
        Check.same("belief(" + r + ", 0)", x.belief(r, 0), above);
        Check.same("belief(" + r + ", 1)", x.belief(r, 1), below);
    }

    private static void hints() {
        Bounds.terms("'hint' READING KIND N (READING: 'hidden', 'lost', 'buried';", () -> {
            for (String reading : READINGS) {
                for (String kind : KINDS) {
                    Faults.goodField(1, "hint " + reading + " " + kind + " 1;");
                }
            }
            for (String word : "king coin told found hint".split(" ")) {
                Faults.inField(1, "hint ^" + word + " coin 1;");
                Faults.inField(1, "prior ^" + word + " 1;");
                Faults.inField(1, "gets ^" + word + " king 1;");
            }
            Faults.inField(1, "hint hidden ^king 1;");
            Faults.inField(1, "hint hidden ^lost 1;");
            Faults.inField(1, "hint hidden ^1;");
            Faults.inField(1, "hint hidden coin^;");
        });
        Bounds.terms("0 to 12; each two once; 6 without)", () -> {
            StringBuilder all = new StringBuilder();
            for (String reading : READINGS) {
                for (String kind : KINDS) {
                    String pair = "hint " + reading + " " + kind;
                    Faults.goodField(1, pair + " 0;");
                    Faults.goodField(1, pair + " 12;");
                    Faults.inField(2, pair + " ^13;");
                    Faults.inField(3, pair + " 6;hint " + reading + " ^" + kind + " 6;");
                    all.append(pair).append(" 6;");
                }
            }
            Faults.goodField(12, all.toString());
            for (int r = 0; r < 3; r++) {
                for (String kind : KINDS) {
                    // Another reading's hint of 12 by two of 6: a quarter is left to each of the others.
                    HiddenOrLost x = told(kind, "hint " + READINGS[(r + 1) % 3] + " " + kind + " 12;");
                    belief(x, r, 1, 4);
                    belief(x, (r + 1) % 3, 1, 2);
                }
            }
            belief(told("coin", "hint hidden coin 0;hint lost coin 12;"), 0, 0, 1);
            belief(told("coin", "hint hidden coin 0;hint lost coin 12;"), 1, 2, 3);
        });
    }

    private static void priors() {
        Bounds.terms("'prior' READING N (1 to 99; each once; 1 without)", () -> {
            for (int r = 0; r < 3; r++) {
                String line = "prior " + READINGS[r];
                Faults.goodField(1, line + " 1;");
                Faults.goodField(1, line + " 99;");
                Faults.inField(2, line + " ^0;");
                Faults.inField(2, line + " ^100;");
                Faults.inField(3, line + " 5;prior ^" + READINGS[r] + " 5;");
                Faults.inField(1, line + " ^king;");
                belief(Check.withField(line + " 98;"), r, 49, 50);
                belief(Check.withField(line + " 98;"), (r + 1) % 3, 1, 100);
                belief(Check.withField(line + " 98;"), (r + 2) % 3, 1, 100);
            }
            Faults.goodField(3, "prior lost 1;prior hidden 99;prior buried 5;");
        });
    }

    private static void shares() {
        Bounds.terms("'gets' READING ROLE N (ROLE: 'king', 'finder', 'owner'; 0 to 12; each two once; 4 without)", () -> {
            StringBuilder all = new StringBuilder();
            for (String reading : READINGS) {
                for (String role : ROLES) {
                    String pair = "gets " + reading + " " + role;
                    Faults.goodField(1, pair + " 0;");
                    Faults.goodField(1, pair + " 12;");
                    Faults.inField(2, pair + " ^13;");
                    Faults.inField(3, pair + " 4;gets " + reading + " ^" + role + " 4;");
                    all.append(pair).append(" 4;");
                }
                Faults.inField(1, "gets " + reading + " ^coin 4;");
                Faults.inField(1, "gets " + reading + " ^hidden 4;");
            }
            Faults.goodField(9, all.toString());
            for (int r = 0; r < 3; r++) {
                for (int role = 0; role < 3; role++) {
                    // 99 by 4 of 12, by a third, if the two others give that role nothing.
                    String none = "gets " + READINGS[(r + 1) % 3] + " " + ROLES[role] + " 0;gets " + READINGS[(r + 2) % 3] + " " + ROLES[role] + " 0;";
                    HiddenOrLost x = told("lid", none);
                    Check.same("gains above", x.gains(role, 0), 11);
                    Check.same("gains below", x.gains(role, 1), 1);
                    // The whole of 99, by a third.
                    HiddenOrLost y = told("lid", none + "gets " + READINGS[r] + " " + ROLES[role] + " 12;");
                    Check.same("gains of 12 above", y.gains(role, 0), 33);
                    Check.same("other roles' gains above", y.gains((role + 1) % 3, 0), 33);
                }
            }
        });
    }

    private static void risk() {
        Bounds.terms("'risk' N (0 to 12; once; 3 without).", () -> {
            for (int n = 0; n <= 12; n++) {
                Check.same("risk " + n, Check.withField("risk " + n + ";").count(5), n);
            }
            Faults.inField(2, "risk ^13;");
            Faults.inField(3, "risk 3;^risk 3;");
            Faults.inField(1, "risk^");
            Check.same("risk without", Check.withField("person a;").count(5), 3);
        });
    }

    private static void names() {
        Bounds.terms("NAME: a WORD, none of those told here, in a BOOK or a SENTENCE;", () -> {
            Check.same("words told", RESERVED.length, 35);
            for (String word : RESERVED) {
                Faults.inField(1, "person ^" + word + ";");
                Faults.inField(1, "find ^" + word + " coin 0 0 0 0 0;");
                Faults.inField(1, "fear ^" + word + " 0 0;");
                if (word.length() < 7) {
                    Faults.goodField(1, "person " + word + "s;");
                }
                Faults.goodField(1, "person " + word.substring(1) + ";");
            }
            for (String sign : "; < = > ( ) 7 A".split(" ")) {
                Faults.inField(1, "person ^" + sign);
            }
        });
        Bounds.terms("told once.", () -> {
            String[] ahead = {"person a;", "find a coin 0 0 0 0 0;", "fear a 0 0;"};
            for (String line : ahead) {
                Faults.inField(3, line + "person ^a;");
                Faults.inField(3, line + "find ^a coin 0 0 0 0 0;");
                Faults.inField(3, line + "fear ^a 0 0;");
                Faults.goodField(2, line + "person b;");
            }
            Faults.inField(3, "person a;person b;person c;person d;person e;person ^a;");
        });
    }

    private static String many(int n, String word, String rest) {
        StringBuilder text = new StringBuilder();
        for (int i = 0; i < n; i++) {
            text.append(word).append(' ').append(word.charAt(0)).append((char) ('a' + i)).append(rest);
        }
        return text.toString();
    }

    private static void howMany() {
        Bounds.terms("6 PERSONS, 10 FINDS, 6 FEARS at most;", () -> {
            HiddenOrLost x = Check.withField(many(6, "person", ";"));
            Check.same("persons", x.count(0), 6);
            Check.same("the last", x.person(5, 0), 0);
            HiddenOrLost y = Check.withField(many(10, "find", " coin 0 0 0 0 0;"));
            Check.same("finds", y.count(1), 10);
            Check.same("the last", y.find(9, 6), 0);
            HiddenOrLost z = Check.withField("fear ba 1 2;fear bb 1 2;fear bc 1 2;fear bd 1 2;fear be 1 2;fear bf 1 3;");
            Check.same("fears", z.count(2), 6);
            Check.same("the last", z.fear(5, 1), 3);
            Faults.inField(4, many(6, "person", ";") + "^person zz;");
            Faults.inField(4, many(10, "find", " coin 0 0 0 0 0;") + "^find zz coin 0 0 0 0 0;");
            Faults.inField(4, many(6, "fear", " 0 0;") + "^fear zz 0 0;");
            Faults.goodField(22, many(6, "person", ";") + "fear ba 0 0;fear bb 0 0;fear bc 0 0;fear bd 0 0;fear be 0 0;fear bf 0 0;"
                + many(10, "find", " coin 0 0 0 0 0;"));
        });
    }

    private static void numbering() {
        Bounds.terms("PERSONS, FINDS, FEARS numbered from 0 each; KINDS, READINGS, ROLES as told here from 0.", () -> {
            HiddenOrLost x = Check.withField("find fc coin 0 0 0 0 1;person pa;fear wa 1 2;find fp pot 0 0 0 0 2;person pb;fear wb 3 4;"
                + "find fl lid 0 0 0 0 3;find fb bone 1 0 0 0 4;prior hidden 1;prior lost 3;prior buried 6;"
                + "gets hidden king 1;gets lost king 1;gets buried king 1;gets hidden finder 2;gets lost finder 2;gets buried finder 2;"
                + "gets hidden owner 3;gets lost owner 3;gets buried owner 3;");
            for (int k = 0; k < 4; k++) {
                Check.same("kind", x.find(k, 0), k);
                Check.same("value", x.find(k, 5), k + 1);
            }
            Check.same("fear 0", x.fear(0, 0), 1);
            Check.same("fear 1", x.fear(1, 0), 3);
            x.dig(0, 0, 0);
            x.dig(1, 1, 0);
            Check.same("person 0", Check.label(x, 0), "fc 0 had by pa");
            Check.same("person 1", Check.label(x, 3), "fb 0 had by pb");
            belief(x, 0, 1, 10);
            belief(x, 1, 3, 10);
            belief(x, 2, 3, 5);
            x.tell(2);
            // 3 by 1, 2, 3 of 12.
            Check.same("king", x.gains(0, 0) * 100 + x.gains(0, 1), 104);
            Check.same("finder", x.gains(1, 0) * 100 + x.gains(1, 1), 102);
            Check.same("owner", x.gains(2, 0) * 100 + x.gains(2, 1), 304);
        });
    }

    private static void bookText() {
        Bounds.terms("A BOOK is a text of at most 400 bytes: { LINE ; },", () -> {
            Faults.goodBook(0, "");
            Faults.goodBook(0, " \n");
            Faults.goodBook(1, Faults.wide("plough 7;", 400));
            Faults.goodBook(1, "plough 7;" + " ".repeat(391));
            Faults.inBook(1, Faults.wide("plough 7;", 400) + "^\n");
            Faults.inBook(1, Faults.wide("plough 7;", 400) + "^plough 7;");
            Faults.inBook(1, 0, ";".repeat(940));
            Faults.inBook(1, 0, "a".repeat(940));
            Faults.inBook(1, "^;");
            Faults.inBook(1, "plough 7;^;");
            Faults.inBook(1, "plough 7^");
            Faults.inBook(1, "plough 7 ^plough 7;");
        });
        Bounds.terms("40 at most:", () -> {
            Faults.goodBook(39, "plough 7;".repeat(39));
            Faults.goodBook(40, "plough 7;".repeat(40));
            Faults.inBook(4, "plough 7;".repeat(40) + "^plough 7;");
            Faults.inBook(4, "plough 7;".repeat(40) + "^ann digs 0 0;");
            Faults.inBook(4, "plough 7;".repeat(40) + "^ring told;");
        });
    }

    private static void bookLines() {
        Bounds.terms("PERSON 'digs' X Y | FIND ( 'told' | 'sold' | 'laid' X Y | 'given' PERSON ) | 'plough' SEED | 'night' N", () -> {
            Faults.goodBook(8, "ann digs 1 1;ring given bob;ring laid 2 2;bob digs 2 2;ring told;ann digs 1 2;plough 3;night 4;");
            Faults.goodBook(2, "ann digs 1 1;ring sold;");
            for (String line : new String[] {"ann digs 0 0", "ring told", "ring sold", "ring laid 0 0", "ring given ann", "plough 5", "night 5"}) {
                Faults.goodBook(1, line + ";");
                Faults.stopping((place, text) -> Faults.inBook(1, place, text), line);
            }
            for (String word : RESERVED) {
                if (!among(word, "plough night")) {
                    Faults.inBook(1, "^" + word + " told;");
                }
                if (!word.equals("digs")) {
                    Faults.inBook(1, "ann ^" + word + " 0 0;");
                }
                if (!among(word, "told sold laid given")) {
                    Faults.inBook(1, "ring ^" + word + " 0 0;");
                }
            }
            Faults.inBook(1, "ann^;");
            Faults.inBook(1, "ann digs 0^;");
            Faults.inBook(1, "ann digs 0 0 ^0;");
            Faults.inBook(1, "ring^;");
            Faults.inBook(1, "ring told ^0;");
            Faults.inBook(1, "ring sold ^0;");
            Faults.inBook(1, "ring laid 0^;");
            Faults.inBook(1, "ring laid 0 0 ^0;");
            Faults.inBook(1, "ring given^;");
            Faults.inBook(1, "ring given ^0;");
            Faults.inBook(1, "ring given bob ^ann;");
            Faults.inBook(1, "plough^;");
            Faults.inBook(1, "night^;");
            Faults.inBook(1, "night 1 ^1;");
            Faults.inBook(1, "^7 digs 0 0;");
        });
    }

    private static void bookNumbers() {
        Bounds.terms("(X, Y 0 to 5; SEED 0 to 999;", () -> {
            for (String act : new String[] {"ann digs ", "ring laid "}) {
                Faults.goodBook(1, act + "0 0;");
                Faults.goodBook(1, act + "5 5;");
                Faults.inBook(2, act + "^6 0;");
                Faults.inBook(2, act + "0 ^6;");
                Faults.inBook(2, act + "^999 0;");
                Faults.inBook(1, act + "^1000 0;");
            }
            Faults.goodBook(2, "plough 0;plough 999;");
            Faults.inBook(1, "plough ^1000;");
        });
        Bounds.terms("N 1 to 30: its seed, too).", () -> {
            Faults.goodBook(2, "night 1;night 30;");
            Faults.inBook(2, "night ^0;");
            Faults.inBook(2, "night ^31;");
            for (int n : new int[] {1, 2, 29, 30}) {
                HiddenOrLost x = Check.withField(fullest());
                HiddenOrLost y = Check.withField(fullest());
                Check.book(x, 1, "night " + n + ";");
                y.nights(n, n);
                Check.same("by a book and by nights(" + n + ", " + n + ")", Twins.state(x), Twins.state(y));
                Check.same("so many", x.now(0), n);
            }
        });
    }

    private static void sentenceText() {
        Bounds.terms("A SENTENCE is a text of at most 200 bytes: COND:", () -> {
            Faults.goodSentence(1, Faults.wide("coin", 200));
            Faults.goodSentence(1, "coin" + " ".repeat(196));
            Faults.inSentence(1, Faults.wide("coin", 200) + "^ ");
            Faults.inSentence(1, Faults.wide("coin", 200) + "^ or lid");
            Faults.inSentence(1, 0, ")".repeat(940));
            Faults.inSentence(1, 0, "a".repeat(940));
            Faults.inSentence(1, "^");
            Faults.inSentence(1, " \n^");
            Faults.inSentence(1, "coin^;");
            Faults.inSentence(1, "coin ^lid");
        });
        Bounds.terms("ALL { 'or' ALL }. ALL: ONE { 'and' ONE }.", () -> {
            Faults.goodSentence(2, "coin or lid");
            Faults.goodSentence(2, "coin and lid");
            Faults.inSentence(1, "^or coin");
            Faults.inSentence(1, "^and coin");
            Faults.inSentence(1, "coin or^");
            Faults.inSentence(1, "coin and^");
            Faults.inSentence(1, "coin or ^and lid");
            Faults.inSentence(1, "coin and ^or lid");
            HiddenOrLost x = Check.withField("find a coin 0 0 0 0 5;find b lid 0 0 0 0 5;find c lid 0 0 0 0 6;");
            Check.same("'and' holds ahead of 'or'", said(x, "coin or lid and value=6"), "02");
            Check.same("so, too, the other way", said(x, "value=6 and lid or coin"), "02");
            Check.same("two by 'and'", said(x, "lid and value=5"), "1");
            Check.same("three by 'or'", said(x, "number=0 or number=1 or number=2"), "012");
            Check.same("three by 'and'", said(x, "lid and value>4 and value<6"), "1");
        });
    }

    static String said(HiddenOrLost x, String text) {
        Check.sentence(x, text);
        StringBuilder which = new StringBuilder();
        int n = x.said(-1);
        for (int k = 0; k < n; k++) {
            which.append(x.said(k));
        }
        return which.toString();
    }

    private static HiddenOrLost ofEachSort() {
        HiddenOrLost x = Check.withField("person ann;person bob;find a coin 0 0 0 0 0;find b pot 1 0 1 999 99;find c lid 2 0 2 500 50;"
            + "find d bone 3 0 9 7 7;find e coin 0 1 0 3 3;");
        x.dig(0, 0, 0);
        x.dig(1, 1, 0);
        x.dig(1, 1, 0);
        for (int i = 0; i < 3; i++) {
            x.dig(0, 2, 0);
        }
        x.tell(0);
        x.sell(1);
        // 0 is told, 1 sold, 2 had by ann, 3 and 4 in the ground.
        return x;
    }

    private static void sentenceWords() {
        Bounds.terms("ONE: 'not' ONE | ( COND ) | 'ground' (it lies in it) | 'found' (somebody has it) | 'told' | 'sold' | KIND (it is one)"
            + " | 'of' PERSON (he has it) |", () -> {
            HiddenOrLost x = ofEachSort();
            Check.same("ground", said(x, "ground"), "34");
            Check.same("found", said(x, "found"), "2");
            Check.same("told", said(x, "told"), "0");
            Check.same("sold", said(x, "sold"), "1");
            Check.same("coin", said(x, "coin"), "04");
            Check.same("pot", said(x, "pot"), "1");
            Check.same("lid", said(x, "lid"), "2");
            Check.same("bone", said(x, "bone"), "3");
            Check.same("he has it", said(x, "of ann"), "2");
            Check.same("he had it: no more", said(x, "of bob"), "");
            Check.same("not", said(x, "not coin"), "123");
            Check.same("not is of one ONE", said(x, "not coin or coin"), "01234");
            Check.same("not of a bracket", said(x, "not (coin or lid)"), "13");
            for (String word : RESERVED) {
                if (!among(word, "coin pot lid bone told sold not ground found of year value deep number")) {
                    Faults.inSentence(1, "^" + word);
                }
            }
            Faults.inSentence(1, "^ann");
            Faults.inSentence(1, "^7");
            Faults.inSentence(1, "not^");
            Faults.inSentence(1, "(^)");
            Faults.inSentence(1, "(coin^");
            Faults.inSentence(1, "of^");
            Faults.inSentence(1, "of ^coin");
            Faults.inSentence(1, "of ^7");
        });
        Bounds.terms("( 'year' | 'value' | 'deep' | 'number' ) SIGN NUMBER (how DEEP it lies, lay last; its number).", () -> {
            HiddenOrLost x = ofEachSort();
            Check.same("year of 0", said(x, "year=0"), "0");
            Check.same("year of 999", said(x, "year=999"), "1");
            Check.same("value of 0", said(x, "value=0"), "0");
            Check.same("value of 99", said(x, "value=99"), "1");
            Check.same("how deep it lay last", said(x, "deep=2"), "2");
            Check.same("how deep it lies", said(x, "deep=9"), "3");
            Faults.goodSentence(1, "year < 5");
            Faults.stopping((place, text) -> Faults.inSentence(1, place, text), "year < 5");
            Faults.stopping((place, text) -> Faults.inSentence(1, place, text), "of ann");
            Check.same("number 0", said(x, "number=0"), "0");
            Check.same("number 4", said(x, "number=4"), "4");
            x.lay(2, 2, 0);
            Check.same("0 deep, when laid", said(x, "deep=0 and lid"), "2");
            for (String measure : "year value deep number".split(" ")) {
                Check.same("no number is more than 999", said(x, measure + ">999"), "");
                Check.same("none is less than 0", said(x, measure + "<0"), "");
                Faults.inSentence(1, measure + "^");
                Faults.inSentence(1, measure + "<^");
                Faults.inSentence(1, measure + " < ^coin");
                Faults.inSentence(1, measure + " < ^1000");
                Faults.inSentence(1, measure + " < ^<");
                Faults.inSentence(1, measure + " ^(");
            }
        });
        Bounds.terms("SIGN: < = >.", () -> {
            HiddenOrLost x = ofEachSort();
            Check.same("less", said(x, "year<500"), "034");
            Check.same("as much", said(x, "year=500"), "2");
            Check.same("more", said(x, "year>500"), "1");
            Check.same("less by number", said(x, "number<2"), "01");
            Check.same("more by number", said(x, "number>2"), "34");
            Check.same("less by value", said(x, "value<7"), "04");
            Check.same("more by value", said(x, "value>7"), "12");
            Check.same("less deep", said(x, "deep<2"), "014");
            Check.same("deeper", said(x, "deep>2"), "3");
        });
        Bounds.terms("It is said of FINDS.", () -> {
            HiddenOrLost none = Check.withField("person ann;");
            Check.same("of no finds", said(none, "not coin"), "");
            Check.same("how many", none.said(-1), 0);
            HiddenOrLost ten = Check.withField(fullest());
            Check.same("of ten finds", said(ten, "not coin"), "0123456789");
        });
    }

    private static void sentenceOnes() {
        Bounds.terms("20 ONES, 8 within one another.", () -> {
            Faults.goodSentence(20, "lid or ".repeat(19) + "lid");
            Faults.goodSentence(20, "not lid or ".repeat(9) + "(lid)");
            HiddenOrLost x = ofEachSort();
            Check.same("the last of twenty holds, too", said(x, "lid or ".repeat(19) + "pot"), "12");
            Check.same("the last of twenty holds not", said(x, "coin and ".repeat(19) + "year>0"), "4");
            Check.same("the innermost of eight", said(x, "not ".repeat(7) + "coin"), "123");
            Check.same("the innermost of eight brackets", said(x, "(lid or ".repeat(7) + "pot" + ")".repeat(7)), "12");
            Faults.inSentence(4, "lid or ".repeat(20) + "^lid");
            Faults.inSentence(4, "not lid or ".repeat(9) + "(lid) and ^told");
            Faults.goodSentence(8, "not ".repeat(7) + "coin");
            Faults.goodSentence(8, "(".repeat(7) + "coin" + ")".repeat(7));
            Faults.goodSentence(8, "not (not (not (not coin)))");
            Faults.goodSentence(10, "not (not (not (not coin and lid))) or told");
            Faults.goodSentence(16, "not ".repeat(7) + "coin or " + "not ".repeat(7) + "coin");
            Faults.inSentence(4, "not ".repeat(8) + "^coin");
            Faults.inSentence(4, "(".repeat(8) + "^coin" + ")".repeat(8));
            Faults.inSentence(4, "lid or not (not (not (not (^coin))))");
            Faults.inSentence(4, "lid or " + "not ".repeat(8) + "^coin");
        });
    }
}
