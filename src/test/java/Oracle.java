import java.math.BigInteger;
import java.util.ArrayDeque;
import java.util.ArrayList;
import java.util.Arrays;
import java.util.Collections;
import java.util.Comparator;
import java.util.HashMap;
import java.util.HashSet;
import java.util.LinkedHashMap;
import java.util.List;
import java.util.Map;
import java.util.NoSuchElementException;
import java.util.Set;
import java.util.function.IntPredicate;
import java.util.regex.Matcher;
import java.util.regex.Pattern;

/** The document once more, written with the whole Java library and without thrift, to compare answers with. */
public final class Oracle {
    private static final int NONE = -1;
    private static final List<String> KINDS = List.of("coin", "pot", "lid", "bone");
    private static final List<String> READINGS = List.of("hidden", "lost", "buried");
    private static final List<String> ROLES = List.of("king", "finder", "owner");
    private static final Set<String> RESERVED = new HashSet<>(Arrays.asList((
        "field person find coin pot lid bone fear hint hidden lost buried prior gets king finder owner risk "
        + "digs told sold laid given plough night or and not ground found of year value deep number").split(" ")));

    private static final class Fault extends Exception {
        private static final long serialVersionUID = 1;
        final int kind;
        final int place;

        Fault(int kind, int place) {
            this.kind = kind;
            this.place = place;
        }
    }

    private static final class Token {
        final String text;
        final int place;

        Token(String text, int place) {
            this.text = text;
            this.place = place;
        }

        boolean isWord() {
            return text.matches("[a-z]{1,7}");
        }

        boolean isNumber() {
            return text.matches("[0-9]{1,3}");
        }

        boolean isName() {
            return isWord() && !RESERVED.contains(text);
        }
    }

    /** Tokens of a text; what comes behind the last one is an empty token at the text's end or at the most bytes. */
    private static final class Tokens {
        private static final Pattern TOKEN = Pattern.compile("[a-z0-9]+|[^ \n]", Pattern.DOTALL);
        final List<Token> all = new ArrayList<>();
        final boolean tooLong;
        int at = 0;

        Tokens(String text, int most) {
            tooLong = text.length() > most;
            Matcher m = TOKEN.matcher(text);
            while (m.find()) {
                if (m.start() < most) {
                    all.add(new Token(m.group(), m.start()));
                }
            }
            all.add(new Token("", tooLong ? most : text.length()));
        }

        Token see() {
            return all.get(at);
        }

        boolean ended() {
            return see().text.isEmpty() && !tooLong;
        }

        Token take() {
            return all.get(at++);
        }

        void sign(String sign) throws Fault {
            if (!see().text.equals(sign)) {
                throw new Fault(1, see().place);
            }
            at++;
        }

        int number(int from, int to) throws Fault {
            Token t = see();
            if (!t.isNumber()) {
                throw new Fault(1, t.place);
            }
            int n = Integer.parseInt(t.text);
            if (n < from || n > to) {
                throw new Fault(2, t.place);
            }
            at++;
            return n;
        }

        int among(List<String> words) throws Fault {
            Token t = see();
            if (!words.contains(t.text)) {
                throw new Fault(1, t.place);
            }
            at++;
            return words.indexOf(t.text);
        }

        Token name() throws Fault {
            if (!see().isName()) {
                throw new Fault(1, see().place);
            }
            return take();
        }
    }

    private static final class Fear {
        int from;
        int to;
    }

    private static final class Find implements Cloneable {
        String name;
        int kind;
        int x;
        int y;
        int deep;
        int year;
        int value;
        int status = 0;
        int who = NONE;

        Find copy() {
            try {
                return (Find) clone();
            } catch (CloneNotSupportedException e) {
                throw new IllegalStateException(e);
            }
        }
    }

    private static final class World {
        int wide = 4;
        int high = 4;
        int risk = 3;
        Map<String, Integer> persons = new LinkedHashMap<>();
        Map<String, Integer> findNumbers = new LinkedHashMap<>();
        Map<String, Integer> fearNumbers = new LinkedHashMap<>();
        List<Fear> fears = new ArrayList<>();
        Map<List<Integer>, Integer> hints = new HashMap<>();
        Map<List<Integer>, Integer> gets = new HashMap<>();
        Map<Integer, Integer> priors = new HashMap<>();
        List<Find> finds = new ArrayList<>();
        Map<List<Integer>, Integer> dug = new HashMap<>();
        int[] coin = new int[6];
        int[] digs = new int[6];
        int[] founds = new int[6];
        int night = 0;
        int ploughs = 0;

        World copy() {
            World w = new World();
            w.wide = wide;
            w.high = high;
            w.risk = risk;
            w.persons = persons;
            w.findNumbers = findNumbers;
            w.fearNumbers = fearNumbers;
            w.fears = fears;
            w.hints = hints;
            w.gets = gets;
            w.priors = priors;
            for (Find f : finds) {
                w.finds.add(f.copy());
            }
            w.dug = new HashMap<>(dug);
            w.coin = coin.clone();
            w.digs = digs.clone();
            w.founds = founds.clone();
            w.night = night;
            w.ploughs = ploughs;
            return w;
        }

        boolean isCell(int x, int y) {
            return x >= 0 && y >= 0 && x < wide && y < high;
        }

        int dugAt(int x, int y) {
            return dug.getOrDefault(List.of(x, y), 0);
        }

        int bits(IntPredicate test) {
            int bits = 0;
            for (int f = 0; f < finds.size(); f++) {
                if (test.test(f)) {
                    bits += 1 << f;
                }
            }
            return bits;
        }

        List<Integer> withStatus(int status) {
            List<Integer> found = new ArrayList<>();
            for (int f = 0; f < finds.size(); f++) {
                if (finds.get(f).status == status) {
                    found.add(f);
                }
            }
            return found;
        }

        int dig(int p, int x, int y) {
            int depth = dugAt(x, y) + 1;
            dug.put(List.of(x, y), depth);
            digs[p]++;
            int n = 0;
            for (Find f : finds) {
                if (f.status == 0 && f.x == x && f.y == y && f.deep < depth) {
                    f.status = 1;
                    f.who = p;
                    n++;
                }
            }
            founds[p] += n;
            return n;
        }

        void sell(int f) {
            Find find = finds.get(f);
            coin[find.who] += find.value / 2;
            find.status = 3;
        }

        void lay(int f, int x, int y) {
            Find find = finds.get(f);
            find.status = 0;
            find.x = x;
            find.y = y;
            find.deep = 0;
        }

        int plough(Drawer d) {
            int moved = 0;
            for (Find f : finds) {
                if (f.status != 0 || f.deep >= 3) {
                    continue;
                }
                int way = d.draw(5);
                int[] dx = {0, 1, -1, 0, 0};
                int[] dy = {0, 0, 0, 1, -1};
                int nx = f.x + dx[way];
                int ny = f.y + dy[way];
                if (isCell(nx, ny) && way > 0) {
                    f.x = nx;
                    f.y = ny;
                    moved++;
                }
                f.deep = d.draw(3);
            }
            dug.clear();
            ploughs++;
            return moved;
        }

        int nights(int n, Drawer d) {
            int went = 0;
            while (went < n && night < 400) {
                int p = d.draw(persons.size());
                int c = d.draw(wide * high);
                int x = c % wide;
                int y = c / wide;
                if (dugAt(x, y) < 10) {
                    dig(p, x, y);
                }
                for (int f = 0; f < finds.size(); f++) {
                    if (finds.get(f).status == 1) {
                        int way = d.draw(4);
                        if (way == 0) {
                            finds.get(f).status = 2;
                        } else if (way == 1) {
                            sell(f);
                        }
                    }
                }
                night++;
                went++;
            }
            return went;
        }

        int worth(int x, int y) {
            if (dugAt(x, y) == 10) {
                return 0;
            }
            return finds.stream().filter(f -> f.status != 0)
                .map(f -> Math.abs(f.x - x) + Math.abs(f.y - y)).min(Comparator.naturalOrder())
                .map(steps -> 12 / (1 + steps)).orElse(1);
        }

        int spread(List<Integer> which) {
            int all = 0;
            for (int f : which) {
                for (int g : which) {
                    all += Math.abs(finds.get(f).x - finds.get(g).x) + Math.abs(finds.get(f).y - finds.get(g).y);
                }
            }
            return all / 2;
        }

        int value(List<Integer> which) {
            return which.stream().mapToInt(f -> finds.get(f).value).sum();
        }

        Ratio[] beliefs(int more) {
            Ratio[] b = new Ratio[3];
            Ratio all = Ratio.of(0);
            for (int r = 0; r < 3; r++) {
                b[r] = Ratio.of(priors.getOrDefault(r, 1));
                for (int f = 0; f < finds.size(); f++) {
                    if (finds.get(f).status == 2 || f == more) {
                        b[r] = b[r].times(hint(r, finds.get(f).kind));
                    }
                }
                all = all.plus(b[r]);
            }
            for (int r = 0; r < 3; r++) {
                b[r] = all.above.signum() == 0 ? Ratio.of(1).by(Ratio.of(3)) : b[r].by(all);
            }
            return b;
        }

        Ratio hint(int r, int kind) {
            return Ratio.of(hints.getOrDefault(List.of(r, kind), 6)).by(Ratio.of(12));
        }

        Ratio gets(Ratio[] b, int role) {
            Ratio all = Ratio.of(0);
            for (int r = 0; r < 3; r++) {
                all = all.plus(b[r].times(Ratio.of(gets.getOrDefault(List.of(r, role), 4)).by(Ratio.of(12))));
            }
            return all;
        }

        Ratio sure(int k) {
            Ratio[] b = beliefs(NONE);
            Ratio yes = Ratio.of(0);
            Ratio no = Ratio.of(0);
            for (int r = 0; r < 3; r++) {
                yes = yes.max(b[r].times(hint(r, k)));
                no = no.max(b[r].times(Ratio.of(1).minus(hint(r, k))));
            }
            return yes.plus(no);
        }
    }

    private static final class Ratio {
        final BigInteger above;
        final BigInteger below;

        private Ratio(BigInteger above, BigInteger below) {
            BigInteger g = above.gcd(below);
            this.above = above.divide(g);
            this.below = below.divide(g);
        }

        static Ratio of(long n) {
            return new Ratio(BigInteger.valueOf(n), BigInteger.ONE);
        }

        Ratio plus(Ratio o) {
            return new Ratio(above.multiply(o.below).add(o.above.multiply(below)), below.multiply(o.below));
        }

        Ratio minus(Ratio o) {
            return plus(new Ratio(o.above.negate(), o.below));
        }

        Ratio times(Ratio o) {
            return new Ratio(above.multiply(o.above), below.multiply(o.below));
        }

        Ratio by(Ratio o) {
            return new Ratio(above.multiply(o.below), below.multiply(o.above));
        }

        int compare(Ratio o) {
            return above.multiply(o.below).compareTo(o.above.multiply(below));
        }

        Ratio max(Ratio o) {
            return compare(o) >= 0 ? this : o;
        }

        long term(int what) {
            return (what == 0 ? above : below).longValueExact();
        }
    }

    private static final class Drawer {
        int x;

        Drawer(int x) {
            this.x = x;
        }

        int draw(int n) {
            x = x * 1103515245 + 12345;
            return (x >>> 8) % n;
        }
    }

    private interface Cond {
        boolean holds(World w, int f);
    }

    private static final class Said {
        final Cond cond;

        Said(Cond cond) {
            this.cond = cond;
        }
    }

    private StringBuilder tape = new StringBuilder();
    private World world = new World();
    private Said said = null;
    private final ArrayDeque<World> past = new ArrayDeque<>();
    private final World[] keptWorlds = new World[2];
    private final Said[] keptSaid = new Said[2];
    private int fault = 0;
    private List<Integer> route = List.of();
    private int early = NONE;
    private int parted = NONE;
    private String label = "";
    private int[] told = {NONE, NONE, NONE, NONE};
    private int ones = 0;

    public Oracle() {
    }

    public int feed(int a, int b, int c, int d, int e) {
        if (tape.length() > 920) {
            return NONE;
        }
        for (int n : new int[] {a, b, c, d, e}) {
            tape.append((char) (n >>> 24)).append((char) (n >>> 16 & 255)).append((char) (n >>> 8 & 255)).append((char) (n & 255));
        }
        return tape.length();
    }

    public boolean end(int n) {
        if (n < 0 || n > tape.length()) {
            return false;
        }
        tape.setLength(n);
        return true;
    }

    private String cutTape() {
        String text = tape.toString();
        tape = new StringBuilder();
        return text;
    }

    public int field() {
        Tokens t = new Tokens(cutTape(), 900);
        World w = new World();
        Set<String> once = new HashSet<>();
        int lines = 0;
        try {
            while (!t.ended()) {
                fieldLine(t, w, once);
                t.sign(";");
                lines++;
            }
        } catch (Fault f) {
            fault = f.kind;
            return -1 - f.place;
        }
        fault = 0;
        world = w;
        said = null;
        past.clear();
        return lines;
    }

    private static void claim(Set<String> once, String what, Token t) throws Fault {
        if (!once.add(what)) {
            throw new Fault(3, t.place);
        }
    }

    private static String newName(Tokens t, Set<String> once) throws Fault {
        Token name = t.name();
        claim(once, "name " + name.text, name);
        return name.text;
    }

    private static void fieldLine(Tokens t, World w, Set<String> once) throws Fault {
        Token first = t.take();
        switch (first.text) {
            case "field":
                claim(once, "field", first);
                if (!w.finds.isEmpty()) {
                    throw new Fault(3, first.place);
                }
                w.wide = t.number(2, 6);
                w.high = t.number(2, 6);
                break;
            case "person":
                if (w.persons.size() == 6) {
                    throw new Fault(4, first.place);
                }
                w.persons.put(newName(t, once), w.persons.size());
                break;
            case "find":
                if (w.finds.size() == 10) {
                    throw new Fault(4, first.place);
                }
                Find f = new Find();
                f.name = newName(t, once);
                f.kind = t.among(KINDS);
                f.x = t.number(0, w.wide - 1);
                f.y = t.number(0, w.high - 1);
                f.deep = t.number(0, 9);
                f.year = t.number(0, 999);
                f.value = t.number(0, 99);
                w.findNumbers.put(f.name, w.finds.size());
                w.finds.add(f);
                break;
            case "fear":
                if (w.fears.size() == 6) {
                    throw new Fault(4, first.place);
                }
                Fear fear = new Fear();
                w.fearNumbers.put(newName(t, once), w.fears.size());
                fear.from = t.number(0, 999);
                fear.to = t.number(fear.from, 999);
                w.fears.add(fear);
                break;
            case "hint":
                int hinted = t.among(READINGS);
                Token kindToken = t.see();
                int kind = t.among(KINDS);
                claim(once, "hint " + hinted + " " + kind, kindToken);
                w.hints.put(List.of(hinted, kind), t.number(0, 12));
                break;
            case "prior":
                Token readingToken = t.see();
                int reading = t.among(READINGS);
                claim(once, "prior " + reading, readingToken);
                w.priors.put(reading, t.number(1, 99));
                break;
            case "gets":
                int by = t.among(READINGS);
                Token roleToken = t.see();
                int role = t.among(ROLES);
                claim(once, "gets " + by + " " + role, roleToken);
                w.gets.put(List.of(by, role), t.number(0, 12));
                break;
            case "risk":
                claim(once, "risk", first);
                w.risk = t.number(0, 12);
                break;
            default:
                throw new Fault(1, first.place);
        }
    }

    public int fault() {
        return fault;
    }

    private boolean isFind(int f) {
        return f >= 0 && f < world.finds.size();
    }

    private boolean isPerson(int p) {
        return p >= 0 && p < world.persons.size();
    }

    public int find(int f, int what) {
        if (!isFind(f) || what < 0 || what > 7) {
            throw new NoSuchElementException();
        }
        Find g = world.finds.get(f);
        return new int[] {g.kind, g.x, g.y, g.deep, g.year, g.value, g.status, g.who}[what];
    }

    public int person(int p, int what) {
        if (!isPerson(p) || what < 0 || what > 3) {
            return NONE;
        }
        int has = world.bits(f -> world.finds.get(f).status == 1 && world.finds.get(f).who == p);
        return new int[] {world.coin[p], has, world.digs[p], world.founds[p]}[what];
    }

    public int cell(int x, int y, int what) {
        if (!world.isCell(x, y) || what < 0 || what > 2) {
            return NONE;
        }
        int there = world.bits(f -> world.finds.get(f).status == 0 && world.finds.get(f).x == x && world.finds.get(f).y == y);
        return new int[] {world.dugAt(x, y), there, world.worth(x, y)}[what];
    }

    public int now(int what) {
        if (what >= 1 && what <= 4) {
            return world.bits(f -> world.finds.get(f).status == what - 1);
        }
        switch (what) {
            case 0: return world.night;
            case 5: return Arrays.stream(world.coin).sum();
            case 6: return Arrays.stream(world.digs).sum();
            case 7: return world.value(world.withStatus(2));
            case 8: return world.ploughs;
            default: return NONE;
        }
    }

    private void remember() {
        past.addLast(world.copy());
        if (past.size() > 8) {
            past.removeFirst();
        }
    }

    public int dig(int p, int x, int y) {
        if (!isPerson(p) || !world.isCell(x, y)) {
            return NONE;
        }
        if (world.dugAt(x, y) >= 10) {
            return -2;
        }
        remember();
        return world.dig(p, x, y);
    }

    private int why(int f) {
        return world.finds.get(f).status == 1 ? 0 : 1;
    }

    public int tell(int f) {
        if (!isFind(f)) {
            return NONE;
        }
        if (why(f) != 0) {
            return why(f);
        }
        remember();
        world.finds.get(f).status = 2;
        return 0;
    }

    public int sell(int f) {
        if (!isFind(f)) {
            return NONE;
        }
        if (why(f) != 0) {
            return why(f);
        }
        remember();
        world.sell(f);
        return 0;
    }

    public int lay(int f, int x, int y) {
        if (!isFind(f) || !world.isCell(x, y)) {
            return NONE;
        }
        if (why(f) != 0) {
            return why(f);
        }
        remember();
        world.lay(f, x, y);
        return 0;
    }

    public int give(int f, int p) {
        if (!isFind(f) || !isPerson(p)) {
            return NONE;
        }
        if (why(f) != 0) {
            return why(f);
        }
        if (world.finds.get(f).who == p) {
            return 2;
        }
        remember();
        world.finds.get(f).who = p;
        return 0;
    }

    public int plough(int seed) {
        remember();
        return world.plough(new Drawer(seed));
    }

    public int nights(int n, int seed) {
        if (n < 1 || n > 30 || world.persons.isEmpty()) {
            return NONE;
        }
        World before = world.copy();
        int went = world.nights(n, new Drawer(seed));
        if (went > 0) {
            World after = world;
            world = before;
            remember();
            world = after;
        }
        return went;
    }

    public int undo() {
        if (past.isEmpty()) {
            return NONE;
        }
        world = past.removeLast();
        return past.size();
    }

    private static void need(boolean good) {
        if (!good) {
            throw new NoSuchElementException();
        }
    }

    public long belief(int r, int what) {
        need(r >= 0 && r < 3 && (what == 0 || what == 1));
        return world.beliefs(NONE)[r].term(what);
    }

    public int reading() {
        Ratio[] b = world.beliefs(NONE);
        List<Integer> order = new ArrayList<>(List.of(0, 1, 2));
        order.sort((r, s) -> b[s].compare(b[r]));
        return order.get(0);
    }

    public long sure(int k, int what) {
        need(k >= 0 && k < 4 && (what == 0 || what == 1));
        return world.sure(k).term(what);
    }

    public int asks() {
        List<Integer> order = new ArrayList<>(List.of(0, 1, 2, 3));
        order.sort((k, l) -> world.sure(l).compare(world.sure(k)));
        return order.get(0);
    }

    public long gains(int role, int what) {
        need(role >= 0 && role < 3 && (what == 0 || what == 1));
        Ratio value = Ratio.of(world.value(world.withStatus(2)));
        return value.times(world.gets(world.beliefs(NONE), role)).term(what);
    }

    public int best(int f) {
        if (!isFind(f) || world.finds.get(f).status != 1) {
            return NONE;
        }
        Ratio value = Ratio.of(world.finds.get(f).value);
        Ratio caught = Ratio.of(world.risk).by(Ratio.of(12));
        Ratio telling = value.times(world.gets(world.beliefs(f), 1));
        Ratio half = value.by(Ratio.of(2));
        Ratio selling = half.times(Ratio.of(1).minus(caught)).minus(value.times(caught));
        return telling.compare(selling) >= 0 ? 0 : 1;
    }

    public int route(int x, int y, int n) {
        if (!world.isCell(x, y) || n < 1 || n > 8) {
            return NONE;
        }
        List<List<Integer>> walks = new ArrayList<>();
        walks.add(List.of(6 * y + x));
        for (int i = 1; i < n; i++) {
            List<List<Integer>> longer = new ArrayList<>();
            for (List<Integer> walk : walks) {
                int last = walk.get(walk.size() - 1);
                for (int c = 0; c < 36; c++) {
                    boolean next = Math.abs(c % 6 - last % 6) + Math.abs(c / 6 - last / 6) == 1;
                    if (next && world.isCell(c % 6, c / 6)) {
                        List<Integer> more = new ArrayList<>(walk);
                        more.add(c);
                        longer.add(more);
                    }
                }
            }
            walks = longer;
        }
        int most = NONE;
        for (List<Integer> walk : walks) {
            int worth = walk.stream().distinct().mapToInt(c -> world.worth(c % 6, c / 6)).sum();
            if (worth > most || worth == most && less(walk, route)) {
                most = worth;
                route = walk;
            }
        }
        return most;
    }

    private static boolean less(List<Integer> a, List<Integer> b) {
        for (int i = 0; i < a.size(); i++) {
            if (!a.get(i).equals(b.get(i))) {
                return a.get(i) < b.get(i);
            }
        }
        return false;
    }

    public int routeAt(int k) {
        return k >= 0 && k < route.size() ? route.get(k) : NONE;
    }

    public int spread() {
        return world.spread(world.withStatus(2));
    }

    public int doubt(int x, int y, int n, int seed) {
        if (!world.isCell(x, y) || n < 1 || n > 30) {
            return NONE;
        }
        int many = 0;
        for (int i = 0; i < n; i++) {
            World w = new World();
            w.wide = world.wide;
            w.high = world.high;
            for (int f : world.withStatus(2)) {
                Find g = new Find();
                g.x = x;
                g.y = y;
                w.finds.add(g);
            }
            Drawer d = new Drawer(seed + i);
            w.plough(d);
            w.plough(d);
            w.plough(d);
            if (w.spread(w.withStatus(0)) >= spread()) {
                many++;
            }
        }
        return many;
    }

    public int fears() {
        int latest = world.withStatus(2).stream().mapToInt(f -> world.finds.get(f).year).max().orElse(NONE);
        int bits = 0;
        for (int k = 0; k < world.fears.size(); k++) {
            boolean fits = latest == NONE;
            for (int year = world.fears.get(k).from; year <= world.fears.get(k).to; year++) {
                fits |= year >= latest && year - latest <= 30;
            }
            bits += fits ? 1 << k : 0;
        }
        return bits;
    }

    public int fear(int k, int what) {
        if (k < 0 || k >= world.fears.size() || what < 0 || what > 1) {
            return NONE;
        }
        return what == 0 ? world.fears.get(k).from : world.fears.get(k).to;
    }

    public int pots() {
        List<Integer> coins = world.withStatus(2);
        coins.removeIf(f -> world.finds.get(f).kind != 0);
        if (coins.size() < 2) {
            return NONE;
        }
        coins.sort(Comparator.comparing((Integer f) -> world.finds.get(f).year).thenComparing(f -> f));
        int least = Integer.MAX_VALUE;
        for (int cut = 1; cut < coins.size(); cut++) {
            int spans = span(coins.subList(0, cut)) + span(coins.subList(cut, coins.size()));
            if (spans < least) {
                least = spans;
                early = coins.subList(0, cut).stream().mapToInt(f -> 1 << f).sum();
            }
        }
        return least;
    }

    private int span(List<Integer> coins) {
        List<Integer> years = new ArrayList<>();
        for (int f : coins) {
            years.add(world.finds.get(f).year);
        }
        return Collections.max(years) - Collections.min(years);
    }

    public int early() {
        return early;
    }

    public int parts() {
        List<Integer> told = world.withStatus(2);
        int least = Integer.MAX_VALUE;
        for (int bits = 0; bits < 1024; bits++) {
            int first = 0;
            int second = 0;
            boolean good = true;
            for (int f = 0; f < 10; f++) {
                boolean has = (bits & 1 << f) != 0;
                if (told.contains(f)) {
                    first += has ? world.finds.get(f).value : 0;
                    second += has ? 0 : world.finds.get(f).value;
                } else {
                    good &= !has;
                }
            }
            if (good && Math.abs(first - second) < least) {
                least = Math.abs(first - second);
                parted = bits;
            }
        }
        return least;
    }

    public int parted() {
        return parted;
    }

    public int label(int f) {
        if (!isFind(f)) {
            return NONE;
        }
        Find g = world.finds.get(f);
        String holder = g.who < 0 ? "" : new ArrayList<>(world.persons.keySet()).get(g.who);
        String[] ends = {" in the ground", " had by " + holder, " told", " sold"};
        label = g.name + " " + g.year + ends[g.status];
        return label.length();
    }

    public int byteAt(int i) {
        return i >= 0 && i < label.length() ? label.charAt(i) : NONE;
    }

    public int odds(int f, int n, int seed) {
        if (!isFind(f) || n < 1 || n > 30 || world.persons.isEmpty()) {
            return NONE;
        }
        int many = 0;
        for (int i = 0; i < n; i++) {
            World w = world.copy();
            w.nights(20, new Drawer(seed + i));
            many += w.finds.get(f).status == 2 ? 1 : 0;
        }
        return many;
    }

    private List<List<Object>> readBook(Tokens t) throws Fault {
        List<List<Object>> lines = new ArrayList<>();
        while (!t.ended()) {
            Token first = t.see();
            boolean work = first.text.equals("plough") || first.text.equals("night");
            if (!work) {
                t.name();
                if (!world.persons.containsKey(first.text) && !world.findNumbers.containsKey(first.text)) {
                    throw new Fault(3, first.place);
                }
            } else {
                t.take();
            }
            if (lines.size() == 40) {
                throw new Fault(4, first.place);
            }
            if (first.text.equals("plough")) {
                lines.add(List.of("plough", t.number(0, 999)));
            } else if (first.text.equals("night")) {
                lines.add(List.of("night", t.number(1, 30)));
            } else if (world.persons.containsKey(first.text)) {
                t.sign("digs");
                lines.add(List.of("digs", world.persons.get(first.text), t.number(0, 5), t.number(0, 5)));
            } else {
                int f = world.findNumbers.get(first.text);
                String act = List.of("told", "sold", "laid", "given").get(t.among(List.of("told", "sold", "laid", "given")));
                if (act.equals("laid")) {
                    lines.add(List.of(act, f, t.number(0, 5), t.number(0, 5)));
                } else if (act.equals("given")) {
                    Token name = t.name();
                    if (!world.persons.containsKey(name.text)) {
                        throw new Fault(3, name.place);
                    }
                    lines.add(List.of(act, f, world.persons.get(name.text)));
                } else {
                    lines.add(List.of(act, f));
                }
            }
            t.sign(";");
        }
        return lines;
    }

    /** Lives a line in the world as it is; why it is wrong, if it is. */
    private int liveLine(List<Object> line) {
        int a = (Integer) line.get(1);
        int b = line.size() > 2 ? (Integer) line.get(2) : 0;
        int c = line.size() > 3 ? (Integer) line.get(3) : 0;
        int why;
        switch ((String) line.get(0)) {
            case "plough":
                world.plough(new Drawer(a));
                return 0;
            case "night":
                if (world.persons.isEmpty()) {
                    return 59;
                }
                if (world.night + a > 400) {
                    return 51;
                }
                world.nights(a, new Drawer(a));
                return 0;
            case "digs":
                why = dig(a, b, c);
                return why == NONE ? 9 : why == -2 ? 1 : 0;
            case "told":
                why = tell(a);
                return why == 0 ? 0 : 10 + why;
            case "sold":
                why = sell(a);
                return why == 0 ? 0 : 20 + why;
            case "laid":
                why = lay(a, b, c);
                return why == NONE ? 39 : why == 0 ? 0 : 30 + why;
            default:
                why = give(a, b);
                return why == 0 ? 0 : 40 + why;
        }
    }

    public int book(int lives) {
        if (lives != 0 && lives != 1) {
            return -1000;
        }
        List<List<Object>> lines;
        try {
            lines = readBook(new Tokens(cutTape(), 400));
        } catch (Fault f) {
            fault = f.kind;
            return -2 - f.place;
        }
        fault = 0;
        World before = world.copy();
        ArrayDeque<World> pastBefore = new ArrayDeque<>(past);
        int why = 0;
        int lived = 0;
        while (lived < lines.size()) {
            why = liveLine(lines.get(lived));
            if (why != 0) {
                break;
            }
            lived++;
        }
        told = new int[] {why, lived, world.night, now(3)};
        World after = world;
        past.clear();
        past.addAll(pastBefore);
        world = before;
        if (lives == 1 && lived > 0) {
            remember();
            world = after;
        }
        return why == 0 ? NONE : lived;
    }

    public int told(int what) {
        return what >= 0 && what < 4 ? told[what] : NONE;
    }

    private Cond cond(Tokens t, int within) throws Fault {
        Cond left = all(t, within);
        while (t.see().text.equals("or")) {
            t.take();
            Cond a = left;
            Cond b = all(t, within);
            left = (w, f) -> a.holds(w, f) || b.holds(w, f);
        }
        return left;
    }

    private Cond all(Tokens t, int within) throws Fault {
        Cond left = one(t, within);
        while (t.see().text.equals("and")) {
            t.take();
            Cond a = left;
            Cond b = one(t, within);
            left = (w, f) -> a.holds(w, f) && b.holds(w, f);
        }
        return left;
    }

    private Cond one(Tokens t, int within) throws Fault {
        Token first = t.take();
        List<String> states = List.of("ground", "found", "told", "sold");
        List<String> measures = List.of("year", "value", "deep", "number");
        boolean can = List.of("not", "(", "of").contains(first.text) || states.contains(first.text)
            || KINDS.contains(first.text) || measures.contains(first.text);
        if (!can) {
            throw new Fault(1, first.place);
        }
        ones++;
        if (ones > 20 || within > 8) {
            throw new Fault(4, first.place);
        }
        if (first.text.equals("not")) {
            Cond c = one(t, within + 1);
            return (w, f) -> !c.holds(w, f);
        }
        if (first.text.equals("(")) {
            Cond c = cond(t, within + 1);
            t.sign(")");
            return c;
        }
        if (first.text.equals("of")) {
            Token name = t.name();
            if (!world.persons.containsKey(name.text)) {
                throw new Fault(3, name.place);
            }
            int p = world.persons.get(name.text);
            return (w, f) -> w.finds.get(f).status == 1 && w.finds.get(f).who == p;
        }
        if (states.contains(first.text)) {
            return (w, f) -> w.finds.get(f).status == states.indexOf(first.text);
        }
        if (KINDS.contains(first.text)) {
            return (w, f) -> w.finds.get(f).kind == KINDS.indexOf(first.text);
        }
        int sign = t.among(List.of("<", "=", ">")) - 1;
        int number = t.number(0, 999);
        return (w, f) -> {
            Find g = w.finds.get(f);
            int left = new int[] {g.year, g.value, g.deep, f}[measures.indexOf(first.text)];
            return Integer.signum(Integer.compare(left, number)) == sign;
        };
    }

    public int sentence() {
        Tokens t = new Tokens(cutTape(), 200);
        ones = 0;
        try {
            Cond c = cond(t, 1);
            if (!t.ended()) {
                throw new Fault(1, t.see().place);
            }
            said = new Said(c);
        } catch (Fault f) {
            fault = f.kind;
            return -1 - f.place;
        }
        fault = 0;
        return ones;
    }

    public int said(int k) {
        if (said == null) {
            return NONE;
        }
        List<Integer> which = new ArrayList<>();
        for (int f = 0; f < world.finds.size(); f++) {
            if (said.cond.holds(world, f)) {
                which.add(f);
            }
        }
        if (k == NONE) {
            return which.size();
        }
        return k >= 0 && k < which.size() ? which.get(k) : NONE;
    }

    public boolean image(int k) {
        if (k < 0 || k > 1) {
            return false;
        }
        keptWorlds[k] = world.copy();
        keptSaid[k] = said;
        return true;
    }

    public boolean restore(int k) {
        if (k < 0 || k > 1 || keptWorlds[k] == null) {
            return false;
        }
        world = keptWorlds[k].copy();
        said = keptSaid[k];
        past.clear();
        return true;
    }

    public int count(int what) {
        int[] all = {world.persons.size(), world.finds.size(), world.fears.size(), world.wide, world.high, world.risk, tape.length()};
        return what >= 0 && what < all.length ? all[what] : NONE;
    }
}
