import java.util.Random;

/** Texts by chance: mostly as the document wants them, sometimes spoilt. */
final class Texts {
    private static final String[] KINDS = {"coin", "pot", "lid", "bone"};
    private static final String[] READINGS = {"hidden", "lost", "buried"};
    private static final String[] ROLES = {"king", "finder", "owner"};
    private static final String[] PERSONS = {"ann", "bob", "cy", "dora", "eve", "fred", "gil"};
    private static final String[] FINDS = {"fa", "fb", "fc", "fd", "fe", "ff", "fg", "fh", "fi", "fj", "fk"};
    private static final String[] FEARS = {"war", "plague", "fire", "flood", "raid", "tax", "omen"};
    private static final String[] ODD = {"told", "digs", "xx", "12", "0", "999", "1000", ";", "(", ")", "<", "=", ">", ".", "a1", "abcdefgh", "A",
        "find", "person", "field", "or", "and", "not", "of", "ann", "fa", "war", "night", "plough", "\u00e9", "\u0000", "risk", "hidden", "coin", "king", "7", "40"};

    private final Random chance;

    Texts(Random chance) {
        this.chance = chance;
    }

    private int below(int n) {
        return chance.nextInt(n);
    }

    private String of(String[] words) {
        return words[below(words.length)];
    }

    private String blank() {
        return below(30) == 0 ? " \n  " : " ";
    }

    String field() {
        StringBuilder text = new StringBuilder();
        int wide = 4;
        int high = 4;
        if (below(2) == 0) {
            wide = 2 + below(5);
            high = 2 + below(5);
            text.append("field ").append(wide).append(' ').append(high).append(';');
        }
        int persons = below(12) == 0 ? 0 : 1 + below(6);
        int finds = below(12) == 0 ? 0 : 1 + below(10);
        int fears = below(7);
        int top = below(3) == 0 ? 9 : 2;
        int yearBase = below(900);
        for (int i = 0; i < persons; i++) {
            text.append("person ").append(PERSONS[i]).append(';');
        }
        for (int i = 0; i < finds; i++) {
            text.append("find ").append(FINDS[i]).append(blank()).append(below(2) == 0 ? "coin" : of(KINDS)).append(' ').append(below(wide))
                .append(' ').append(below(high)).append(' ').append(below(top + 1)).append(blank())
                .append(yearBase + below(100)).append(' ').append(below(100)).append(';');
        }
        for (int i = 0; i < fears; i++) {
            int from = below(3) == 0 ? below(1000) : Math.min(999, yearBase + below(140));
            text.append("fear ").append(FEARS[i]).append(' ').append(from).append(' ')
                .append(below(2) == 0 ? from + below(1000 - from) : Math.min(999, from + below(20))).append(';');
        }
        boolean zeros = below(4) == 0;
        for (String r : READINGS) {
            for (String k : KINDS) {
                if (below(3) == 0) {
                    text.append("hint ").append(r).append(' ').append(k).append(' ').append(zeros && below(2) == 0 ? 0 : below(13)).append(';');
                }
            }
            for (String role : ROLES) {
                if (below(4) == 0) {
                    text.append("gets ").append(r).append(' ').append(role).append(' ').append(below(13)).append(';');
                }
            }
            if (below(3) == 0) {
                text.append("prior ").append(r).append(' ').append(1 + below(99)).append(';');
            }
        }
        if (below(2) == 0) {
            text.append("risk ").append(below(13)).append(';');
        }
        while (text.length() > 900 && below(4) > 0) {
            text.setLength(text.lastIndexOf(";", text.length() - 2) + 1);
        }
        return spoilt(text, 900, 5);
    }

    String book() {
        StringBuilder text = new StringBuilder();
        int lines = below(20) == 0 ? 39 + below(4) : below(14);
        for (int i = 0; i < lines; i++) {
            int way = below(12);
            if (way < 6) {
                text.append(PERSONS[below(2)]).append(" digs ").append(below(4)).append(' ').append(below(4));
            } else if (way < 9) {
                text.append(FINDS[below(4)]).append(of(new String[] {" told", " sold", " laid 1 1", " laid 5 5", " given ann", " given bob"}));
            } else if (way == 9) {
                text.append("plough ").append(below(1000));
            } else {
                text.append("night ").append(1 + below(30));
            }
            text.append(below(4) == 0 ? " ; " : ";");
        }
        return spoilt(text, 400, 6);
    }

    String sentence() {
        StringBuilder text = new StringBuilder();
        cond(text, below(10) == 0 ? 9 : 3);
        return spoilt(text, 200, 5);
    }

    private void cond(StringBuilder text, int room) {
        one(text, room);
        int n = below(3);
        for (int i = 0; i < n; i++) {
            text.append(below(2) == 0 ? " and " : " or ");
            one(text, room);
        }
    }

    private void one(StringBuilder text, int room) {
        int way = room <= 0 ? 4 + below(6) : below(10);
        if (way < 2) {
            text.append("not ");
            one(text, room - 1);
        } else if (way < 4) {
            text.append('(');
            if (room > 4) {
                one(text, room - 1);
            } else {
                cond(text, room - 1);
            }
            text.append(')');
        } else if (way < 6) {
            text.append(of(new String[] {"ground", "found", "told", "sold"}));
        } else if (way == 6) {
            text.append(of(KINDS));
        } else if (way == 7) {
            text.append("of ").append(PERSONS[below(3)]);
        } else {
            String[] measures = {"year", "value", "deep", "number"};
            int m = below(4);
            int[] top = {1000, 100, 10, 10};
            text.append(measures[m]).append(of(new String[] {"<", "=", ">"})).append(below(top[m]));
        }
    }

    /** Leaves most texts as they are; one of so many is changed at a place or made too long. */
    private String spoilt(StringBuilder text, int most, int oneOf) {
        if (below(oneOf) != 0) {
            return text.toString();
        }
        int at = text.length() == 0 ? 0 : below(text.length());
        switch (below(7)) {
            case 0:
                text.insert(at, " " + of(ODD) + " ");
                break;
            case 1:
                if (text.length() > 0) {
                    text.deleteCharAt(at);
                }
                break;
            case 2:
                text.setLength(at);
                break;
            case 3:
                text.insert(at, (char) below(256));
                break;
            case 4:
                int end = text.indexOf(";", at);
                int start = text.lastIndexOf(";", at);
                if (end > 0) {
                    text.append(text.substring(start + 1, end + 1));
                }
                break;
            case 5:
                while (text.length() < most - 3 + below(7)) {
                    text.append(below(2) == 0 ? ' ' : '\n');
                }
                text.append(below(2) == 0 ? of(ODD) : "");
                break;
            default:
                int from = text.lastIndexOf(" ", at);
                int to = text.indexOf(" ", at);
                if (from >= 0 && to > from) {
                    text.replace(from + 1, to, of(ODD));
                }
                break;
        }
        return text.length() > 940 ? text.substring(0, 940) : text.toString();
    }
}
