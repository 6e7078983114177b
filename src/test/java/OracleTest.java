import java.lang.reflect.InvocationTargetException;
import java.lang.reflect.Method;
import java.nio.charset.StandardCharsets;
import java.util.ArrayList;
import java.util.Arrays;
import java.util.List;
import java.util.Map;
import java.util.Random;
import java.util.TreeMap;

/** Long runs by chance on the class and on the oracle, answer against answer; a machine's exception is a wrong answer. */
public final class OracleTest {
    private static final int RUNS = 12000;
    private static final int CALLS = 170;

    private final Random chance;
    private final Texts texts;
    private final HiddenOrLost x = new HiddenOrLost();
    private final Oracle oracle = new Oracle();
    private final List<String> calls = new ArrayList<>();
    private static final Map<String, Integer> SEEN = new TreeMap<>();
    private static final Map<String, Method> OWN = methods(HiddenOrLost.class);
    private static final Map<String, Method> DUE = methods(Oracle.class);

    private OracleTest(int seed) {
        chance = new Random(seed);
        texts = new Texts(chance);
    }

    private static Map<String, Method> methods(Class<?> type) {
        Map<String, Method> all = new TreeMap<>();
        for (Method m : type.getDeclaredMethods()) {
            if (java.lang.reflect.Modifier.isPublic(m.getModifiers())) {
                all.put(m.getName(), m);
            }
        }
        return all;
    }

    private static String answer(Object on, Method m, Object[] args) {
        try {
            return String.valueOf(m.invoke(on, args));
        } catch (InvocationTargetException e) {
            return "throws." + e.getCause().getClass().getSimpleName();
        } catch (IllegalAccessException e) {
            return "can't be called";
        }
    }

    private boolean call(String name, Object... args) {
        String got = answer(x, OWN.get(name), args);
        String want = answer(oracle, DUE.get(name), args);
        calls.add(name + Arrays.toString(args) + " " + got);
        if (!name.equals("feed")) {
            SEEN.merge(name + " " + (got.length() > 4 || got.compareTo("0") >= 0 ? "some" : got), 1, Integer::sum);
        }
        if (!got.equals(want)) {
            System.out.println("due is " + want + " behind " + String.join("; ", calls.subList(Math.max(0, calls.size() - 60), calls.size())));
            return false;
        }
        return true;
    }

    private boolean feed(String text) {
        byte[] bytes = text.getBytes(StandardCharsets.ISO_8859_1);
        boolean good = call("end", 0);
        for (int at = 0; at < bytes.length && good; at += 20) {
            good = call("feed", Check.four(bytes, at), Check.four(bytes, at + 4), Check.four(bytes, at + 8),
                Check.four(bytes, at + 12), Check.four(bytes, at + 16));
        }
        return good && call("end", bytes.length);
    }

    private int near(int n) {
        return chance.nextInt(n + 2) - 1;
    }

    private int seed() {
        return chance.nextInt(3) == 0 ? chance.nextInt() : chance.nextInt(1000);
    }

    private boolean act() {
        switch (chance.nextInt(14)) {
            case 0: case 1: case 2: case 3: return call("dig", near(3), near(4), near(4));
            case 4: return call("tell", near(10));
            case 5: return call("sell", near(10));
            case 6: return call("lay", near(10), near(5), near(5));
            case 7: return call("give", near(10), near(4));
            case 8: return call("plough", seed());
            case 9: case 10: return call("nights", chance.nextInt(3) == 0 ? near(31) : 1 + chance.nextInt(4), seed());
            case 11: return call("undo");
            case 12: return feed(texts.book()) && call("book", chance.nextInt(20) == 0 ? 2 : chance.nextInt(2)) && call("fault");
            default: return tellOne();
        }
    }

    private boolean tellOne() {
        int had = Integer.parseInt(answer(x, OWN.get("now"), new Object[] {2}));
        for (int f = 0; f < 10; f++) {
            if ((had >> f & 1) == 1 && !(call("best", f) && call("tell", f))) {
                return false;
            }
        }
        return true;
    }

    private boolean ask() {
        int f = near(10);
        switch (chance.nextInt(22)) {
            case 0: return call("find", f, near(8));
            case 1: return call("person", near(6), near(4));
            case 2: return call("cell", near(6), near(6), near(3));
            case 3: return call("now", near(9));
            case 4: return call("belief", near(3), near(2));
            case 5: return call("reading");
            case 6: return call("sure", near(4), near(2));
            case 7: return call("asks");
            case 8: return call("gains", near(3), near(2));
            case 9: return call("best", f);
            case 10: return call("route", near(4), near(4), chance.nextInt(40) == 0 ? near(9) : near(5)) && call("routeAt", near(8));
            case 11: return call("spread");
            case 12: return call("doubt", near(5), near(5), chance.nextInt(5) == 0 ? near(31) : 2, seed());
            case 13: return call("fears") && call("fear", near(6), near(2));
            case 14: return call("pots") && call("early");
            case 15: return call("early") && call("parted");
            case 16: return call("parts") && call("parted");
            case 17: return call("label", f) && call("byteAt", near(27));
            case 18: return call("odds", f, chance.nextInt(5) == 0 ? near(31) : 2, seed());
            case 19: return call("told", near(4)) && call("byteAt", near(27)) && call("routeAt", near(8));
            case 20: return call("said", near(8) - 1) && call("said", -1);
            default: return call("count", near(7)) && call("fault");
        }
    }

    private boolean all() {
        boolean good = true;
        for (int f = 0; f < 10 && good; f++) {
            for (int what = 0; what < 8 && good; what++) {
                good = call("find", f, what);
            }
        }
        for (int p = 0; p < 6 && good; p++) {
            for (int what = 0; what < 4 && good; what++) {
                good = call("person", p, what);
            }
        }
        for (int what = 0; what < 9 && good; what++) {
            good = call("now", what) && call("count", what) && call("said", what);
        }
        for (int cell = 0; cell < 36 && good; cell++) {
            good = call("cell", cell % 6, cell / 6, 0) && call("cell", cell % 6, cell / 6, 2);
        }
        return good;
    }

    private boolean run() {
        boolean good = true;
        for (int i = 0; i < CALLS && good; i++) {
            int way = chance.nextInt(40);
            if (i == 0 && chance.nextInt(10) > 0 || way == 0 && chance.nextInt(3) == 0) {
                good = feed(texts.field()) && call("field") && call("fault");
            } else if (way == 1) {
                good = feed(texts.sentence()) && call("sentence") && call("fault") && call("said", -1) && call("said", near(5));
            } else if (way == 2) {
                good = call("image", near(2));
            } else if (way == 3 && chance.nextInt(2) == 0) {
                good = call("restore", near(2));
            } else if (way == 4 && chance.nextInt(4) == 0) {
                good = all();
            } else if (way < 22) {
                good = act();
            } else {
                good = ask();
            }
        }
        return good && all();
    }

    public static void main(String[] args) {
        int runs = args.length > 0 ? Integer.parseInt(args[0]) : RUNS;
        int first = args.length > 1 ? Integer.parseInt(args[1]) : 1;
        int wrong = 0;
        for (int i = 0; i < runs && wrong < 3; i++) {
            wrong += new OracleTest(first + i).run() ? 0 : 1;
        }
        if (args.length > 2) {
            SEEN.forEach((what, n) -> System.out.println(n + " " + what));
        }
        System.out.println(runs + " runs by chance, " + wrong + " wrong");
        if (wrong != 0) {
            System.exit(1);
        }
    }
}
