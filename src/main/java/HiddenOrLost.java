import java.util.Arrays;
import java.util.NoSuchElementException;

/** A field in which finds lie, the persons who dig there, and what may be thought of what they tell. */
public final class HiddenOrLost {
    public static final int NONE = -1;

    private static final int MOST_TAPE = 940;
    private static final int FED_AT_ONCE = 20;
    private static final int MOST_FIELD = 900;
    private static final int MOST_BOOK = 400;
    private static final int MOST_SENTENCE = 200;
    private static final int MOST_LETTERS = 7;
    private static final int MOST_DIGITS = 3;
    private static final int MOST_NUMBER = 999;

    private static final int MOST_PERSONS = 6;
    private static final int MOST_FINDS = 10;
    private static final int MOST_FEARS = 6;
    private static final int MOST_LINES = 40;
    private static final int MOST_ONES = 20;
    private static final int MOST_WITHIN = 8;
    private static final int MOST_ACTS = 8;
    private static final int MOST_STEPS = 8;
    private static final int MOST_SEEDS = 30;
    private static final int MOST_NIGHTS_AT_ONCE = 30;
    private static final int LAST_NIGHT = 400;
    private static final int ODDS_NIGHTS = 20;
    private static final int DOUBT_PLOUGHS = 3;
    private static final int FEAR_YEARS = 30;
    private static final int MOST_DUG = 10;
    private static final int PLOUGH_DEPTH = 3;
    private static final int TWELVE = 12;

    private static final int SIDE = 6;
    private static final int LEAST_SIDE = 2;
    private static final int CELLS = 36;
    private static final int KINDS = 4;
    private static final int READINGS = 3;
    private static final int ROLES = 3;

    private static final int KIND = 0;
    private static final int AT_X = 1;
    private static final int AT_Y = 2;
    private static final int DEEP = 3;
    private static final int YEAR = 4;
    private static final int VALUE = 5;
    private static final int FACTS = 6;

    private static final int IN_GROUND = 0;
    private static final int HAD = 1;
    private static final int TOLD = 2;
    private static final int SOLD = 3;

    private static final int NO_TOKEN = 1;
    private static final int BAD_NUMBER = 2;
    private static final int BAD_NAME = 3;
    private static final int TOO_MANY = 4;

    private static final int AT_END = 0;
    private static final int TOO_LONG = 1;
    private static final int UNKNOWN = 2;
    private static final int NAME = 3;
    private static final int KNOWN_WORD = 4;
    private static final int NUMBER = 5;

    // Each word ends with a blank; its place among them is its number, so words of one sort stand together.
    private static final String WORDS = "field person find fear hint prior gets risk coin pot lid bone hidden lost buried king finder owner digs told sold laid given plough night or and not ground found of year value deep number ";
    private static final int WORD_COUNT = 35;
    private static final int W_FIELD = 0;
    private static final int W_PERSON = 1;
    private static final int W_FIND = 2;
    private static final int W_FEAR = 3;
    private static final int W_HINT = 4;
    private static final int W_PRIOR = 5;
    private static final int W_GETS = 6;
    private static final int W_RISK = 7;
    private static final int W_COIN = 8;
    private static final int W_BONE = 11;
    private static final int W_HIDDEN = 12;
    private static final int W_KING = 15;
    private static final int W_DIGS = 18;
    private static final int W_TOLD = 19;
    private static final int W_SOLD = 20;
    private static final int W_LAID = 21;
    private static final int W_GIVEN = 22;
    private static final int W_PLOUGH = 23;
    private static final int W_NIGHT = 24;
    private static final int W_OR = 25;
    private static final int W_AND = 26;
    private static final int W_NOT = 27;
    private static final int W_GROUND = 28;
    private static final int W_FOUND = 29;
    private static final int W_OF = 30;
    private static final int W_YEAR = 31;
    private static final int W_VALUE = 32;
    private static final int W_DEEP = 33;
    private static final int W_NUMBER = 34;

    private final Tape tape = new Tape();
    private Land land = new Land();
    private Land spareLand = new Land();
    private final State state = new State();
    private final State scratch = new State();
    private Sentence sentenceNow = new Sentence();
    private Sentence spareSentence = new Sentence();
    private final Book latestBook = new Book();
    private final History history = new History();
    private final Image firstImage = new Image();
    private final Image secondImage = new Image();
    private final Draws draws = new Draws();
    private final Beliefs beliefs = new Beliefs();
    private final Route latestRoute = new Route();
    private final Label latestLabel = new Label();
    private final int[] bookTold = {NONE, NONE, NONE, NONE};
    private final int[] coins = new int[MOST_FINDS];
    private int faultKind = 0;
    private int earlyCoins = NONE;
    private int firstPart = NONE;

    public HiddenOrLost() {
    }

    public int feed(int a, int b, int c, int d, int e) {
        if (tape.length + FED_AT_ONCE > MOST_TAPE) {
            return NONE;
        }
        tape.put(a);
        tape.put(b);
        tape.put(c);
        tape.put(d);
        tape.put(e);
        return tape.length;
    }

    public boolean end(int n) {
        if (n < 0 || n > tape.length) {
            return false;
        }
        tape.length = n;
        return true;
    }

    public int field() {
        boolean good = spareLand.read(tape);
        tape.length = 0;
        faultKind = tape.faultKind;
        if (!good) {
            return -1 - tape.faultAt;
        }
        Land before = land;
        land = spareLand;
        spareLand = before;
        state.begin(land);
        sentenceNow.clear();
        history.clear();
        return land.lines;
    }

    public int fault() {
        return faultKind;
    }

    public int find(int f, int what) throws NoSuchElementException {
        if (!land.hasFind(f) || what < 0 || what > 7) {
            throw new NoSuchElementException();
        }
        switch (what) {
            case AT_X:
                return state.x[f];
            case AT_Y:
                return state.y[f];
            case DEEP:
                return state.deep[f];
            case 6:
                return state.status[f];
            case 7:
                return state.who[f];
            default:
                return land.factOf(f, what);
        }
    }

    public int person(int p, int what) {
        if (!land.hasPerson(p)) {
            return NONE;
        }
        switch (what) {
            case 0:
                return state.coin[p];
            case 1:
                return state.hadBy(land, p);
            case 2:
                return state.digs[p];
            case 3:
                return state.founds[p];
            default:
                return NONE;
        }
    }

    public int cell(int x, int y, int what) {
        if (!land.hasCell(x, y)) {
            return NONE;
        }
        switch (what) {
            case 0:
                return state.dug[SIDE * y + x];
            case 1:
                return state.inGroundOf(land, x, y);
            case 2:
                return state.worthOf(land, x, y);
            default:
                return NONE;
        }
    }

    public int now(int what) {
        switch (what) {
            case 0:
                return state.night;
            case 1:
            case 2:
            case 3:
            case 4:
                return state.bitsOf(land, what - 1);
            case 5:
                return state.sumOf(state.coin);
            case 6:
                return state.sumOf(state.digs);
            case 7:
                return state.toldValue(land);
            case 8:
                return state.ploughs;
            default:
                return NONE;
        }
    }

    public int dig(int p, int x, int y) {
        if (!land.hasPerson(p) || !land.hasCell(x, y)) {
            return NONE;
        }
        if (!state.canDig(x, y)) {
            return -2;
        }
        history.keep(state);
        return state.digCell(land, p, x, y);
    }

    public int tell(int f) {
        if (!land.hasFind(f)) {
            return NONE;
        }
        int why = state.whyNotMoved(f);
        if (why == 0) {
            history.keep(state);
            state.status[f] = TOLD;
        }
        return why;
    }

    public int sell(int f) {
        if (!land.hasFind(f)) {
            return NONE;
        }
        int why = state.whyNotMoved(f);
        if (why == 0) {
            history.keep(state);
            state.sellFind(land, f);
        }
        return why;
    }

    public int lay(int f, int x, int y) {
        if (!land.hasFind(f) || !land.hasCell(x, y)) {
            return NONE;
        }
        int why = state.whyNotMoved(f);
        if (why == 0) {
            history.keep(state);
            state.layFind(f, x, y);
        }
        return why;
    }

    public int give(int f, int p) {
        if (!land.hasFind(f) || !land.hasPerson(p)) {
            return NONE;
        }
        int why = state.whyNotGiven(f, p);
        if (why == 0) {
            history.keep(state);
            state.who[f] = p;
        }
        return why;
    }

    public int plough(int seed) {
        history.keep(state);
        draws.x = seed;
        return state.turnOver(land, draws);
    }

    public int nights(int n, int seed) {
        if (n < 1 || n > MOST_NIGHTS_AT_ONCE || land.persons == 0) {
            return NONE;
        }
        if (state.night >= LAST_NIGHT) {
            return 0;
        }
        history.keep(state);
        draws.x = seed;
        return state.passNights(land, draws, n);
    }

    public int undo() {
        if (!history.takeBack(state)) {
            return NONE;
        }
        return history.size;
    }

    public long belief(int r, int what) throws NoSuchElementException {
        if (r < 0 || r >= READINGS || what < 0 || what > 1) {
            throw new NoSuchElementException();
        }
        beliefs.weigh(land, state, NONE);
        return Beliefs.termOf(beliefs.weights[r], beliefs.total, what);
    }

    public int reading() {
        beliefs.weigh(land, state, NONE);
        return beliefs.likeliest();
    }

    public long sure(int k, int what) throws NoSuchElementException {
        if (k < 0 || k >= KINDS || what < 0 || what > 1) {
            throw new NoSuchElementException();
        }
        beliefs.weigh(land, state, NONE);
        return Beliefs.termOf(beliefs.rightGuesses(land, k), TWELVE * beliefs.total, what);
    }

    public int asks() {
        beliefs.weigh(land, state, NONE);
        return beliefs.surestKind(land);
    }

    public long gains(int role, int what) throws NoSuchElementException {
        if (role < 0 || role >= ROLES || what < 0 || what > 1) {
            throw new NoSuchElementException();
        }
        beliefs.weigh(land, state, NONE);
        long above = state.toldValue(land) * beliefs.shareOf(land, role);
        return Beliefs.termOf(above, TWELVE * beliefs.total, what);
    }

    public int best(int f) {
        if (!land.hasFind(f) || state.status[f] != HAD) {
            return NONE;
        }
        beliefs.weigh(land, state, f);
        return beliefs.tellingPays(land, land.factOf(f, VALUE)) ? 0 : 1;
    }

    public int route(int x, int y, int n) {
        if (!land.hasCell(x, y) || n < 1 || n > MOST_STEPS) {
            return NONE;
        }
        latestRoute.search(land, state, SIDE * y + x, n);
        return latestRoute.most;
    }

    public int routeAt(int k) {
        return k < 0 || k >= latestRoute.length ? NONE : latestRoute.mostPath[k];
    }

    public int spread() {
        return state.stepsBetween(land, TOLD);
    }

    public int doubt(int x, int y, int n, int seed) {
        if (!land.hasCell(x, y) || n < 1 || n > MOST_SEEDS) {
            return NONE;
        }
        int spreadNow = state.stepsBetween(land, TOLD);
        int asMuch = 0;
        for (int i = 0; i < n; i++) {
            if (spreadByPlough(x, y, seed + i) >= spreadNow) {
                asMuch++;
            }
        }
        return asMuch;
    }

    public int fears() {
        int latest = state.latestTold(land);
        int bits = 0;
        for (int k = 0; k < land.fears; k++) {
            boolean fits = land.fearFrom(k) <= latest + FEAR_YEARS && land.fearTo(k) >= latest;
            if (latest < 0 || fits) {
                bits |= 1 << k;
            }
        }
        return bits;
    }

    public int fear(int k, int what) {
        if (k < 0 || k >= land.fears || what < 0 || what > 1) {
            return NONE;
        }
        return what == 0 ? land.fearFrom(k) : land.fearTo(k);
    }

    public int pots() {
        int n = sortToldCoins();
        if (n < 2) {
            return NONE;
        }
        int leastAhead = 1;
        for (int ahead = 2; ahead < n; ahead++) {
            if (spansCutBehind(ahead, n) < spansCutBehind(leastAhead, n)) {
                leastAhead = ahead;
            }
        }
        earlyCoins = 0;
        for (int i = 0; i < leastAhead; i++) {
            earlyCoins |= 1 << coins[i];
        }
        return spansCutBehind(leastAhead, n);
    }

    public int early() {
        return earlyCoins;
    }

    public int parts() {
        int told = state.bitsOf(land, TOLD);
        int all = state.toldValue(land);
        int least = all;
        firstPart = 0;
        for (int bits = 1; bits <= told; bits++) {
            if ((bits & ~told) == 0) {
                int apart = Math.abs(all - 2 * land.valueOf(bits));
                if (apart < least) {
                    least = apart;
                    firstPart = bits;
                }
            }
        }
        return least;
    }

    public int parted() {
        return firstPart;
    }

    public int label(int f) {
        if (!land.hasFind(f)) {
            return NONE;
        }
        latestLabel.write(land, state, f);
        return latestLabel.length;
    }

    public int byteAt(int i) {
        return i < 0 || i >= latestLabel.length ? NONE : latestLabel.signs[i];
    }

    public int odds(int f, int n, int seed) {
        if (!land.hasFind(f) || n < 1 || n > MOST_SEEDS || land.persons == 0) {
            return NONE;
        }
        int toldThen = 0;
        for (int i = 0; i < n; i++) {
            scratch.copy(state);
            draws.x = seed + i;
            scratch.passNights(land, draws, ODDS_NIGHTS);
            if (scratch.status[f] == TOLD) {
                toldThen++;
            }
        }
        return toldThen;
    }

    public int book(int lives) {
        if (lives != 0 && lives != 1) {
            return -1000;
        }
        boolean good = latestBook.read(tape, land);
        tape.length = 0;
        faultKind = tape.faultKind;
        if (!good) {
            return -2 - tape.faultAt;
        }
        scratch.copy(state);
        int lived = latestBook.live(land, scratch, draws);
        bookTold[0] = latestBook.why;
        bookTold[1] = lived;
        bookTold[2] = scratch.night;
        bookTold[3] = scratch.bitsOf(land, TOLD);
        if (lives == 1 && lived > 0) {
            history.keep(state);
            state.copy(scratch);
        }
        return latestBook.why == 0 ? NONE : lived;
    }

    public int told(int what) {
        return what < 0 || what >= bookTold.length ? NONE : bookTold[what];
    }

    public int sentence() {
        boolean good = spareSentence.read(tape, land);
        tape.length = 0;
        faultKind = tape.faultKind;
        if (!good) {
            return -1 - tape.faultAt;
        }
        Sentence before = sentenceNow;
        sentenceNow = spareSentence;
        spareSentence = before;
        return sentenceNow.ones;
    }

    public int said(int k) {
        if (sentenceNow.ones == 0 || k < NONE) {
            return NONE;
        }
        int bits = sentenceNow.bitsOf(land, state);
        if (k == NONE) {
            return Integer.bitCount(bits);
        }
        int ahead = 0;
        for (int f = 0; f < land.finds; f++) {
            if ((bits >> f & 1) == 1) {
                if (ahead == k) {
                    return f;
                }
                ahead++;
            }
        }
        return NONE;
    }

    public boolean image(int k) {
        if (k != 0 && k != 1) {
            return false;
        }
        Image image = k == 0 ? firstImage : secondImage;
        image.land.copy(land);
        image.state.copy(state);
        image.sentence.copy(sentenceNow);
        image.kept = true;
        return true;
    }

    public boolean restore(int k) {
        if (k != 0 && k != 1) {
            return false;
        }
        Image image = k == 0 ? firstImage : secondImage;
        if (!image.kept) {
            return false;
        }
        land.copy(image.land);
        state.copy(image.state);
        sentenceNow.copy(image.sentence);
        history.clear();
        return true;
    }

    public int count(int what) {
        switch (what) {
            case 0:
                return land.persons;
            case 1:
                return land.finds;
            case 2:
                return land.fears;
            case 3:
                return land.wide;
            case 4:
                return land.high;
            case 5:
                return land.risk;
            case 6:
                return tape.length;
            default:
                return NONE;
        }
    }

    private int spreadByPlough(int x, int y, int seed) {
        scratch.copy(state);
        scratch.gatherTold(land, x, y);
        draws.x = seed;
        for (int i = 0; i < DOUBT_PLOUGHS; i++) {
            scratch.turnOver(land, draws);
        }
        return scratch.stepsBetween(land, IN_GROUND);
    }

    /** Fills coins with those that are told, by year and then by number, and answers how many there are. */
    private int sortToldCoins() {
        int n = 0;
        for (int f = 0; f < land.finds; f++) {
            if (state.status[f] == TOLD && land.factOf(f, KIND) == 0) {
                int at = n;
                while (at > 0 && yearOfCoin(at - 1) > land.factOf(f, YEAR)) {
                    coins[at] = coins[at - 1];
                    at--;
                }
                coins[at] = f;
                n++;
            }
        }
        return n;
    }

    private int yearOfCoin(int place) {
        return land.factOf(coins[place], YEAR);
    }

    private int spansCutBehind(int ahead, int n) {
        return yearOfCoin(ahead - 1) - yearOfCoin(0) + yearOfCoin(n - 1) - yearOfCoin(ahead);
    }

    /** The bytes that were fed, the tokens of the text that they are, and the token at which its reader stands. */
    private static final class Tape {
        private final byte[] bytes = new byte[MOST_TAPE];
        private final long[] words = new long[WORD_COUNT];
        private final int[] types = new int[MOST_FIELD + 1];
        private final int[] places = new int[MOST_FIELD + 1];
        private final long[] values = new long[MOST_FIELD + 1];
        private int length = 0;
        private int place = 0;
        private int last = 0;
        private int next = 0;
        private int type = AT_END;
        private long value = 0;
        private int word = NONE;
        private int taken = 0;
        private int at = 0;
        private int faultKind = 0;
        private int faultAt = 0;

        Tape() {
            int n = 0;
            long code = 0;
            for (int i = 0; i < WORDS.length() && n < WORD_COUNT; i++) {
                char sign = WORDS.charAt(i);
                if (sign == ' ') {
                    words[n] = code;
                    n++;
                    code = 0;
                } else {
                    code = withLetter(code, sign);
                }
            }
        }

        // No letter counts 0, so words of up to seven letters that differ have codes that differ.
        private static long withLetter(long code, int sign) {
            return code * 32 + (sign - 'a' + 1);
        }

        void put(int four) {
            for (int shift = 24; shift >= 0; shift -= 8) {
                if (length < bytes.length) {
                    bytes[length] = (byte) (four >> shift);
                    length++;
                }
            }
        }

        /** Cuts the text into tokens, as far as they begin within its most bytes, and stands at the first of them. */
        void begin(int most) {
            int n = 0;
            place = 0;
            skipBlanks();
            while (n < MOST_FIELD && place < length && place < most) {
                places[n] = place;
                readToken(n);
                n++;
                skipBlanks();
            }
            types[n] = length > most ? TOO_LONG : AT_END;
            places[n] = Math.min(length, most);
            last = n;
            next = 0;
            faultKind = 0;
            faultAt = 0;
            step();
        }

        private void skipBlanks() {
            while (place < length && (bytes[place] == 32 || bytes[place] == 10)) {
                place++;
            }
        }

        private void readToken(int n) {
            int sign = bytes[place];
            if (goesOn(sign)) {
                readRun(n);
            } else {
                types[n] = isSign(sign) ? sign : UNKNOWN;
                place++;
            }
        }

        private void readRun(int n) {
            int letters = 0;
            int digits = 0;
            int number = 0;
            long code = 0;
            while (place < length && goesOn(bytes[place])) {
                int sign = bytes[place];
                if (isDigit(sign)) {
                    digits++;
                    number = digits > MOST_DIGITS ? 0 : number * 10 + sign - '0';
                } else {
                    letters++;
                    code = letters > MOST_LETTERS ? 0 : withLetter(code, sign);
                }
                place++;
            }
            if (digits == 0 && letters <= MOST_LETTERS) {
                int known = wordOf(code);
                types[n] = known == NONE ? NAME : KNOWN_WORD;
                values[n] = known == NONE ? code : known;
            } else {
                types[n] = letters == 0 && digits <= MOST_DIGITS ? NUMBER : UNKNOWN;
                values[n] = number;
            }
        }

        /** Goes on to the next token; the end stays the end. */
        void step() {
            type = types[next];
            at = places[next];
            value = values[next];
            word = type == KNOWN_WORD ? (int) value : NONE;
            if (next < last) {
                next++;
            }
        }

        private int wordOf(long code) {
            for (int i = 0; i < WORD_COUNT; i++) {
                if (words[i] == code) {
                    return i;
                }
            }
            return NONE;
        }

        private static boolean isDigit(int sign) {
            return sign >= '0' && sign <= '9';
        }

        private static boolean goesOn(int sign) {
            return isDigit(sign) || sign >= 'a' && sign <= 'z';
        }

        private static boolean isSign(int sign) {
            return sign == ';' || sign == '(' || sign == ')' || isCompare(sign);
        }

        static boolean isCompare(int sign) {
            return sign == '<' || sign == '=' || sign == '>';
        }

        boolean isWord(int w) {
            return word == w;
        }

        boolean isAmong(int first, int n) {
            return word >= first && word < first + n;
        }

        boolean isName() {
            return type == NAME;
        }

        boolean fail(int kind) {
            faultKind = kind;
            faultAt = at;
            return false;
        }

        boolean takeSign(int sign) {
            if (type != sign) {
                return fail(NO_TOKEN);
            }
            step();
            return true;
        }

        boolean takeNumber(int from, int to) {
            if (type != NUMBER) {
                return fail(NO_TOKEN);
            }
            if (value < from || value > to) {
                return fail(BAD_NUMBER);
            }
            taken = (int) value;
            step();
            return true;
        }

        boolean takeAmong(int first, int n) {
            if (!isAmong(first, n)) {
                return fail(NO_TOKEN);
            }
            taken = word - first;
            step();
            return true;
        }
    }

    /** A FIELD as its text tells it; nothing that is done in it changes it. */
    private static final class Land {
        // Each thing that may be told once has a bit: first 'field', 'risk', then the rows of the others.
        private static final int BIT_FIELD = 0;
        private static final int BIT_RISK = 1;
        private static final int BIT_PRIOR = 2;
        private static final int BIT_HINT = 5;
        private static final int BIT_GETS = 17;

        private final long[] personNames = new long[MOST_PERSONS];
        private final long[] findNames = new long[MOST_FINDS];
        private final long[] fearNames = new long[MOST_FEARS];
        private final int[] facts = new int[MOST_FINDS * FACTS];
        private final int[] fearYears = new int[MOST_FEARS * 2];
        private final int[] hints = new int[READINGS * KINDS];
        private final int[] priors = new int[READINGS];
        private final int[] gets = new int[READINGS * ROLES];
        private int wide = 4;
        private int high = 4;
        private int risk = 3;
        private int persons = 0;
        private int finds = 0;
        private int fears = 0;
        private int lines = 0;
        private int toldOnce = 0;

        Land() {
            clear();
        }

        private void clear() {
            Arrays.fill(hints, 6);
            Arrays.fill(priors, 1);
            Arrays.fill(gets, 4);
            wide = 4;
            high = 4;
            risk = 3;
            persons = 0;
            finds = 0;
            fears = 0;
            lines = 0;
            toldOnce = 0;
        }

        void copy(Land from) {
            System.arraycopy(from.personNames, 0, personNames, 0, personNames.length);
            System.arraycopy(from.findNames, 0, findNames, 0, findNames.length);
            System.arraycopy(from.fearNames, 0, fearNames, 0, fearNames.length);
            System.arraycopy(from.facts, 0, facts, 0, facts.length);
            System.arraycopy(from.fearYears, 0, fearYears, 0, fearYears.length);
            System.arraycopy(from.hints, 0, hints, 0, hints.length);
            System.arraycopy(from.priors, 0, priors, 0, priors.length);
            System.arraycopy(from.gets, 0, gets, 0, gets.length);
            wide = from.wide;
            high = from.high;
            risk = from.risk;
            persons = from.persons;
            finds = from.finds;
            fears = from.fears;
            lines = from.lines;
            toldOnce = from.toldOnce;
        }

        boolean hasPerson(int p) {
            return p >= 0 && p < persons;
        }

        boolean hasFind(int f) {
            return f >= 0 && f < finds;
        }

        boolean hasCell(int x, int y) {
            return x >= 0 && x < wide && y >= 0 && y < high;
        }

        int columnOf(int cell) {
            return wide > 0 ? cell % wide : 0;
        }

        int rowOf(int cell) {
            return wide > 0 ? cell / wide : 0;
        }

        int factOf(int f, int what) {
            return f >= 0 && f < finds && what >= 0 && what < FACTS ? facts[f * FACTS + what] : NONE;
        }

        int fearFrom(int k) {
            return fearYears[2 * k];
        }

        int fearTo(int k) {
            return fearYears[2 * k + 1];
        }

        int valueOf(int bits) {
            int value = 0;
            for (int f = 0; f < finds; f++) {
                if ((bits >> f & 1) == 1) {
                    value += factOf(f, VALUE);
                }
            }
            return value;
        }

        int personNamed(long code) {
            return placeOf(personNames, persons, code);
        }

        int findNamed(long code) {
            return placeOf(findNames, finds, code);
        }

        private static int placeOf(long[] names, int n, long code) {
            for (int i = 0; i < n && i < names.length; i++) {
                if (names[i] == code) {
                    return i;
                }
            }
            return NONE;
        }

        boolean read(Tape tape) {
            clear();
            tape.begin(MOST_FIELD);
            for (int i = 0; i < MOST_FIELD && tape.type != AT_END; i++) {
                if (!readLine(tape) || !tape.takeSign(';')) {
                    return false;
                }
                lines++;
            }
            return true;
        }

        private boolean readLine(Tape tape) {
            if (!tape.isAmong(W_FIELD, W_RISK - W_FIELD + 1)) {
                return tape.fail(NO_TOKEN);
            }
            switch (tape.word) {
                case W_FIELD:
                    return readSize(tape);
                case W_PERSON:
                    return readPerson(tape);
                case W_FIND:
                    return readFind(tape);
                case W_FEAR:
                    return readFear(tape);
                case W_HINT:
                    return readPair(tape, W_COIN, KINDS, BIT_HINT, hints);
                case W_PRIOR:
                    return readPrior(tape);
                case W_GETS:
                    return readPair(tape, W_KING, ROLES, BIT_GETS, gets);
                default:
                    return readRisk(tape);
            }
        }

        private boolean takeOnce(Tape tape, int bit) {
            if ((toldOnce >> bit & 1) == 1) {
                return tape.fail(BAD_NAME);
            }
            toldOnce |= 1 << bit;
            tape.step();
            return true;
        }

        private boolean readSize(Tape tape) {
            if (finds > 0) {
                return tape.fail(BAD_NAME);
            }
            if (!takeOnce(tape, BIT_FIELD) || !tape.takeNumber(LEAST_SIDE, SIDE)) {
                return false;
            }
            wide = tape.taken;
            if (!tape.takeNumber(LEAST_SIDE, SIDE)) {
                return false;
            }
            high = tape.taken;
            return true;
        }

        /** Steps over a line's first word and tells whether a name stands behind it that was not told so far. */
        private boolean reachNewName(Tape tape, boolean isRoom) {
            if (!isRoom) {
                return tape.fail(TOO_MANY);
            }
            tape.step();
            if (!tape.isName()) {
                return tape.fail(NO_TOKEN);
            }
            boolean isTold = personNamed(tape.value) >= 0 || findNamed(tape.value) >= 0
                || placeOf(fearNames, fears, tape.value) >= 0;
            return !isTold || tape.fail(BAD_NAME);
        }

        private boolean readPerson(Tape tape) {
            if (!reachNewName(tape, persons < MOST_PERSONS)) {
                return false;
            }
            personNames[persons] = tape.value;
            persons++;
            tape.step();
            return true;
        }

        private boolean readFind(Tape tape) {
            if (!reachNewName(tape, finds < MOST_FINDS)) {
                return false;
            }
            int row = finds * FACTS;
            findNames[finds] = tape.value;
            tape.step();
            if (!tape.takeAmong(W_COIN, KINDS)) {
                return false;
            }
            facts[row] = tape.taken;
            for (int what = AT_X; what < FACTS; what++) {
                if (!tape.takeNumber(0, mostOf(what))) {
                    return false;
                }
                facts[row + what] = tape.taken;
            }
            finds++;
            return true;
        }

        private int mostOf(int what) {
            switch (what) {
                case AT_X:
                    return wide - 1;
                case AT_Y:
                    return high - 1;
                case DEEP:
                    return 9;
                case YEAR:
                    return MOST_NUMBER;
                default:
                    return 99;
            }
        }

        private boolean readFear(Tape tape) {
            if (!reachNewName(tape, fears < MOST_FEARS)) {
                return false;
            }
            fearNames[fears] = tape.value;
            tape.step();
            if (!tape.takeNumber(0, MOST_NUMBER)) {
                return false;
            }
            int from = tape.taken;
            if (!tape.takeNumber(from, MOST_NUMBER)) {
                return false;
            }
            fearYears[2 * fears] = from;
            fearYears[2 * fears + 1] = tape.taken;
            fears++;
            return true;
        }

        /** A number by a reading and by one of the n words that begin with first. */
        private boolean readPair(Tape tape, int first, int n, int firstBit, int[] row) {
            tape.step();
            if (!tape.takeAmong(W_HIDDEN, READINGS)) {
                return false;
            }
            int reading = tape.taken;
            if (!tape.isAmong(first, n)) {
                return tape.fail(NO_TOKEN);
            }
            int at = reading * n + tape.word - first;
            if (!takeOnce(tape, firstBit + at) || !tape.takeNumber(0, TWELVE)) {
                return false;
            }
            if (at >= 0 && at < row.length) {
                row[at] = tape.taken;
            }
            return true;
        }

        private boolean readPrior(Tape tape) {
            tape.step();
            if (!tape.isAmong(W_HIDDEN, READINGS)) {
                return tape.fail(NO_TOKEN);
            }
            int reading = tape.word - W_HIDDEN;
            if (!takeOnce(tape, BIT_PRIOR + reading) || !tape.takeNumber(1, 99)) {
                return false;
            }
            priors[reading] = tape.taken;
            return true;
        }

        private boolean readRisk(Tape tape) {
            if (!takeOnce(tape, BIT_RISK) || !tape.takeNumber(0, TWELVE)) {
                return false;
            }
            risk = tape.taken;
            return true;
        }
    }

    /** All that is so in a field: where its finds are, what its persons have, what is dug. */
    private static final class State {
        private final int[] x = new int[MOST_FINDS];
        private final int[] y = new int[MOST_FINDS];
        private final int[] deep = new int[MOST_FINDS];
        private final int[] status = new int[MOST_FINDS];
        private final int[] who = new int[MOST_FINDS];
        private final int[] coin = new int[MOST_PERSONS];
        private final int[] digs = new int[MOST_PERSONS];
        private final int[] founds = new int[MOST_PERSONS];
        private final int[] dug = new int[CELLS];
        private int night = 0;
        private int ploughs = 0;

        State() {
        }

        void begin(Land land) {
            for (int f = 0; f < land.finds; f++) {
                x[f] = land.factOf(f, AT_X);
                y[f] = land.factOf(f, AT_Y);
                deep[f] = land.factOf(f, DEEP);
            }
            Arrays.fill(status, IN_GROUND);
            Arrays.fill(who, NONE);
            Arrays.fill(coin, 0);
            Arrays.fill(digs, 0);
            Arrays.fill(founds, 0);
            Arrays.fill(dug, 0);
            night = 0;
            ploughs = 0;
        }

        void copy(State from) {
            System.arraycopy(from.x, 0, x, 0, x.length);
            System.arraycopy(from.y, 0, y, 0, y.length);
            System.arraycopy(from.deep, 0, deep, 0, deep.length);
            System.arraycopy(from.status, 0, status, 0, status.length);
            System.arraycopy(from.who, 0, who, 0, who.length);
            System.arraycopy(from.coin, 0, coin, 0, coin.length);
            System.arraycopy(from.digs, 0, digs, 0, digs.length);
            System.arraycopy(from.founds, 0, founds, 0, founds.length);
            System.arraycopy(from.dug, 0, dug, 0, dug.length);
            night = from.night;
            ploughs = from.ploughs;
        }

        int bitsOf(Land land, int wanted) {
            int bits = 0;
            for (int f = 0; f < land.finds; f++) {
                if (status[f] == wanted) {
                    bits |= 1 << f;
                }
            }
            return bits;
        }

        int hadBy(Land land, int p) {
            int bits = 0;
            for (int f = 0; f < land.finds; f++) {
                if (status[f] == HAD && who[f] == p) {
                    bits |= 1 << f;
                }
            }
            return bits;
        }

        int inGroundOf(Land land, int cellX, int cellY) {
            int bits = 0;
            for (int f = 0; f < land.finds; f++) {
                if (status[f] == IN_GROUND && x[f] == cellX && y[f] == cellY) {
                    bits |= 1 << f;
                }
            }
            return bits;
        }

        int sumOf(int[] row) {
            int sum = 0;
            for (int i = 0; i < row.length; i++) {
                sum += row[i];
            }
            return sum;
        }

        int toldValue(Land land) {
            return land.valueOf(bitsOf(land, TOLD));
        }

        int latestTold(Land land) {
            int latest = NONE;
            for (int f = 0; f < land.finds; f++) {
                if (status[f] == TOLD) {
                    latest = Math.max(latest, land.factOf(f, YEAR));
                }
            }
            return latest;
        }

        int worthOf(Land land, int cellX, int cellY) {
            if (!canDig(cellX, cellY)) {
                return 0;
            }
            int nearest = NONE;
            for (int f = 0; f < land.finds; f++) {
                int steps = Math.abs(x[f] - cellX) + Math.abs(y[f] - cellY);
                if (status[f] != IN_GROUND && (nearest < 0 || steps < nearest)) {
                    nearest = steps;
                }
            }
            return nearest < 0 ? 1 : TWELVE / (1 + nearest);
        }

        int stepsBetween(Land land, int wanted) {
            int steps = 0;
            for (int f = 0; f < land.finds; f++) {
                for (int g = 0; g < f; g++) {
                    if (status[f] == wanted && status[g] == wanted) {
                        steps += Math.abs(x[f] - x[g]) + Math.abs(y[f] - y[g]);
                    }
                }
            }
            return steps;
        }

        /** What is told lies in one cell then, and nothing else lies in the ground. */
        void gatherTold(Land land, int cellX, int cellY) {
            for (int f = 0; f < land.finds; f++) {
                if (status[f] == TOLD) {
                    layFind(f, cellX, cellY);
                } else {
                    status[f] = SOLD;
                }
            }
        }

        boolean canDig(int cellX, int cellY) {
            int cell = SIDE * cellY + cellX;
            return cell >= 0 && cell < CELLS && dug[cell] < MOST_DUG;
        }

        /** Answers how many finds were found; none, and nothing is done, where he can't dig. */
        int digCell(Land land, int p, int cellX, int cellY) {
            if (!land.hasPerson(p) || !canDig(cellX, cellY)) {
                return 0;
            }
            int cell = SIDE * cellY + cellX;
            dug[cell]++;
            digs[p]++;
            int n = 0;
            for (int f = 0; f < land.finds; f++) {
                boolean isThere = status[f] == IN_GROUND && x[f] == cellX && y[f] == cellY;
                if (isThere && deep[f] < dug[cell]) {
                    status[f] = HAD;
                    who[f] = p;
                    n++;
                }
            }
            founds[p] += n;
            return n;
        }

        int whyNotMoved(int f) {
            return status[f] == HAD ? 0 : 1;
        }

        int whyNotGiven(int f, int p) {
            if (status[f] != HAD) {
                return 1;
            }
            return who[f] == p ? 2 : 0;
        }

        void sellFind(Land land, int f) {
            int p = who[f];
            if (land.hasPerson(p)) {
                coin[p] += land.factOf(f, VALUE) / 2;
            }
            status[f] = SOLD;
        }

        void layFind(int f, int cellX, int cellY) {
            status[f] = IN_GROUND;
            x[f] = cellX;
            y[f] = cellY;
            deep[f] = 0;
        }

        int turnOver(Land land, Draws draws) {
            int moved = 0;
            for (int f = 0; f < land.finds; f++) {
                if (status[f] == IN_GROUND && deep[f] < PLOUGH_DEPTH) {
                    if (shift(land, f, draws.below(5))) {
                        moved++;
                    }
                    deep[f] = draws.below(3);
                }
            }
            Arrays.fill(dug, 0);
            ploughs++;
            return moved;
        }

        private boolean shift(Land land, int f, int way) {
            int newX = x[f];
            int newY = y[f];
            switch (way) {
                case 1:
                    newX++;
                    break;
                case 2:
                    newX--;
                    break;
                case 3:
                    newY++;
                    break;
                case 4:
                    newY--;
                    break;
                default:
                    return false;
            }
            if (!land.hasCell(newX, newY)) {
                return false;
            }
            x[f] = newX;
            y[f] = newY;
            return true;
        }

        int passNights(Land land, Draws draws, int n) {
            int went = Math.min(n, LAST_NIGHT - night);
            for (int i = 0; i < went; i++) {
                passNight(land, draws);
            }
            return went;
        }

        private void passNight(Land land, Draws draws) {
            int p = draws.below(land.persons);
            int cell = draws.below(land.wide * land.high);
            digCell(land, p, land.columnOf(cell), land.rowOf(cell));
            for (int f = 0; f < land.finds; f++) {
                if (status[f] == HAD) {
                    int way = draws.below(4);
                    if (way == 0) {
                        status[f] = TOLD;
                    } else if (way == 1) {
                        sellFind(land, f);
                    }
                }
            }
            night++;
        }
    }

    /** The draws that a seed gives, one behind the other. */
    private static final class Draws {
        private int x = 0;

        Draws() {
        }

        int below(int n) {
            x = x * 1103515245 + 12345;
            return n > 0 ? (x >>> 8) % n : 0;
        }
    }

    /** How likely each reading is: its weight by the total of all of them. */
    private static final class Beliefs {
        private final long[] weights = new long[READINGS];
        private long total = 1;

        Beliefs() {
        }

        /** By what is told and, if it is a find, by one more. Ten hints and a prior stay far below a long's end. */
        void weigh(Land land, State state, int more) {
            total = 0;
            for (int r = 0; r < READINGS; r++) {
                long weight = land.priors[r];
                for (int f = 0; f < land.finds; f++) {
                    if (state.status[f] == TOLD || f == more) {
                        weight *= land.hints[r * KINDS + land.factOf(f, KIND)];
                    }
                }
                weights[r] = weight;
                total += weight;
            }
            if (total == 0) {
                Arrays.fill(weights, 1);
                total = READINGS;
            }
        }

        int likeliest() {
            int first = 0;
            for (int r = 1; r < READINGS; r++) {
                if (weights[r] > weights[first]) {
                    first = r;
                }
            }
            return first;
        }

        /** How likely a guess is right, by twelve times the total. */
        long rightGuesses(Land land, int kind) {
            long ifItComes = 0;
            long ifNot = 0;
            for (int r = 0; r < READINGS; r++) {
                int hint = land.hints[r * KINDS + kind];
                ifItComes = Math.max(ifItComes, weights[r] * hint);
                ifNot = Math.max(ifNot, weights[r] * (TWELVE - hint));
            }
            return ifItComes + ifNot;
        }

        int surestKind(Land land) {
            int first = 0;
            for (int k = 1; k < KINDS; k++) {
                if (rightGuesses(land, k) > rightGuesses(land, first)) {
                    first = k;
                }
            }
            return first;
        }

        /** What a role gets of one value, by twelve times the total. */
        long shareOf(Land land, int role) {
            long share = 0;
            for (int r = 0; r < READINGS; r++) {
                share += weights[r] * land.gets[r * ROLES + role];
            }
            return share;
        }

        // Both sides by 24 times the total, so that nothing is cut.
        boolean tellingPays(Land land, int value) {
            long byTelling = 2 * value * shareOf(land, 1);
            long bySelling = value * (TWELVE - 3L * land.risk) * total;
            return byTelling >= bySelling;
        }

        static long termOf(long above, long below, int what) {
            long divisor = commonDivisor(above, below);
            if (divisor == 0) {
                return 0;
            }
            return what == 0 ? above / divisor : below / divisor;
        }

        private static long commonDivisor(long a, long b) {
            long greater = a;
            long less = b;
            for (int i = 0; i < 200 && less != 0; i++) {
                long rest = greater % less;
                greater = less;
                less = rest;
            }
            return greater;
        }
    }

    /** The walk that the latest search found, and what the search needs. */
    private static final class Route {
        private final int[] worths = new int[CELLS];
        private final int[] visits = new int[CELLS];
        private final int[] path = new int[MOST_STEPS];
        private final int[] mostPath = new int[MOST_STEPS];
        private int greatestWorth = 0;
        private int length = 0;
        private int most = NONE;

        Route() {
        }

        void search(Land land, State state, int start, int n) {
            greatestWorth = 0;
            for (int y = 0; y < land.high; y++) {
                for (int x = 0; x < land.wide; x++) {
                    int worth = state.worthOf(land, x, y);
                    worths[SIDE * y + x] = worth;
                    greatestWorth = Math.max(greatestWorth, worth);
                }
            }
            Arrays.fill(visits, 0);
            length = n;
            most = NONE;
            walk(land, 0, start, 0);
        }

        // Neighbours are tried from the least to the greatest, so of like walks the first one found is the one asked for.
        private void walk(Land land, int step, int cell, int before) {
            if (step >= length || cell < 0 || cell >= CELLS) {
                return;
            }
            path[step] = cell;
            int worth = before + (visits[cell] == 0 ? worths[cell] : 0);
            if (step + 1 == length) {
                keepIfMore(worth);
                return;
            }
            // A walk that could not win even over the cells of the greatest worth is left.
            if (worth + greatestWorth * (length - step - 1) <= most) {
                return;
            }
            visits[cell]++;
            int x = cell % SIDE;
            int y = cell / SIDE;
            if (y > 0) {
                walk(land, step + 1, cell - SIDE, worth);
            }
            if (x > 0) {
                walk(land, step + 1, cell - 1, worth);
            }
            if (x + 1 < land.wide) {
                walk(land, step + 1, cell + 1, worth);
            }
            if (y + 1 < land.high) {
                walk(land, step + 1, cell + SIDE, worth);
            }
            visits[cell]--;
        }

        private void keepIfMore(int worth) {
            if (worth > most) {
                most = worth;
                System.arraycopy(path, 0, mostPath, 0, length);
            }
        }
    }

    /** The bytes of the latest label. */
    private static final class Label {
        private final byte[] signs = new byte[40];
        private int length = 0;

        Label() {
        }

        void write(Land land, State state, int f) {
            length = 0;
            addName(land.findNames[f]);
            add(' ');
            addNumber(land.factOf(f, YEAR));
            switch (state.status[f]) {
                case IN_GROUND:
                    addText(" in the ground");
                    break;
                case HAD:
                    addText(" had by ");
                    if (land.hasPerson(state.who[f])) {
                        addName(land.personNames[state.who[f]]);
                    }
                    break;
                case TOLD:
                    addText(" told");
                    break;
                default:
                    addText(" sold");
                    break;
            }
        }

        private void add(int sign) {
            if (length < signs.length) {
                signs[length] = (byte) sign;
                length++;
            }
        }

        private void addText(String text) {
            for (int i = 0; i < text.length(); i++) {
                add(text.charAt(i));
            }
        }

        private void addName(long code) {
            for (int shift = 5 * (MOST_LETTERS - 1); shift >= 0; shift -= 5) {
                int letter = (int) (code >> shift & 31);
                if (letter > 0) {
                    add('a' + letter - 1);
                }
            }
        }

        private void addNumber(int number) {
            if (number >= 100) {
                add('0' + number / 100);
            }
            if (number >= 10) {
                add('0' + number / 10 % 10);
            }
            add('0' + number % 10);
        }
    }

    /** The lines of a BOOK: what is done, and with which up to three numbers. */
    private static final class Book {
        private final int[] acts = new int[MOST_LINES];
        private final int[] firsts = new int[MOST_LINES];
        private final int[] seconds = new int[MOST_LINES];
        private final int[] thirds = new int[MOST_LINES];
        private int lines = 0;
        private int why = 0;

        Book() {
        }

        boolean read(Tape tape, Land land) {
            lines = 0;
            tape.begin(MOST_BOOK);
            for (int i = 0; i < MOST_BOOK && tape.type != AT_END; i++) {
                if (!readLine(tape, land) || !tape.takeSign(';')) {
                    return false;
                }
                lines++;
            }
            return true;
        }

        private boolean readLine(Tape tape, Land land) {
            boolean isWork = tape.isWord(W_PLOUGH) || tape.isWord(W_NIGHT);
            if (!isWork && !tape.isName()) {
                return tape.fail(NO_TOKEN);
            }
            int p = isWork ? NONE : land.personNamed(tape.value);
            int f = isWork ? NONE : land.findNamed(tape.value);
            if (!isWork && p < 0 && f < 0) {
                return tape.fail(BAD_NAME);
            }
            if (lines >= MOST_LINES) {
                return tape.fail(TOO_MANY);
            }
            if (isWork) {
                return readWork(tape);
            }
            tape.step();
            firsts[lines] = p >= 0 ? p : f;
            return p >= 0 ? readDigging(tape) : readHandling(tape, land);
        }

        private boolean readWork(Tape tape) {
            acts[lines] = tape.word;
            boolean isPlough = tape.word == W_PLOUGH;
            tape.step();
            if (!tape.takeNumber(isPlough ? 0 : 1, isPlough ? MOST_NUMBER : MOST_NIGHTS_AT_ONCE)) {
                return false;
            }
            firsts[lines] = tape.taken;
            return true;
        }

        private boolean readDigging(Tape tape) {
            acts[lines] = W_DIGS;
            return tape.takeAmong(W_DIGS, 1) && readCell(tape);
        }

        private boolean readHandling(Tape tape, Land land) {
            acts[lines] = tape.word;
            if (!tape.takeAmong(W_TOLD, W_GIVEN - W_TOLD + 1)) {
                return false;
            }
            switch (acts[lines]) {
                case W_LAID:
                    return readCell(tape);
                case W_GIVEN:
                    return readReceiver(tape, land);
                default:
                    return true;
            }
        }

        private boolean readCell(Tape tape) {
            if (!tape.takeNumber(0, SIDE - 1)) {
                return false;
            }
            seconds[lines] = tape.taken;
            if (!tape.takeNumber(0, SIDE - 1)) {
                return false;
            }
            thirds[lines] = tape.taken;
            return true;
        }

        private boolean readReceiver(Tape tape, Land land) {
            if (!tape.isName()) {
                return tape.fail(NO_TOKEN);
            }
            seconds[lines] = land.personNamed(tape.value);
            if (seconds[lines] < 0) {
                return tape.fail(BAD_NAME);
            }
            tape.step();
            return true;
        }

        /** Does line by line what it tells, as far as none is wrong: how many were done. */
        int live(Land land, State state, Draws draws) {
            why = 0;
            for (int i = 0; i < lines && i < MOST_LINES; i++) {
                why = whyWrong(land, state, i);
                if (why != 0) {
                    return i;
                }
                liveLine(land, state, draws, i);
            }
            return lines;
        }

        private int whyWrong(Land land, State state, int i) {
            int first = firsts[i];
            boolean isCell = land.hasCell(seconds[i], thirds[i]);
            switch (acts[i]) {
                case W_DIGS:
                    return !isCell ? 9 : state.canDig(seconds[i], thirds[i]) ? 0 : 1;
                case W_TOLD:
                    return behind(10, state.whyNotMoved(first));
                case W_SOLD:
                    return behind(20, state.whyNotMoved(first));
                case W_LAID:
                    return !isCell ? 39 : behind(30, state.whyNotMoved(first));
                case W_GIVEN:
                    return behind(40, state.whyNotGiven(first, seconds[i]));
                case W_NIGHT:
                    return land.persons == 0 ? 59 : first > LAST_NIGHT - state.night ? 51 : 0;
                default:
                    return 0;
            }
        }

        private static int behind(int tens, int whyNot) {
            return whyNot == 0 ? 0 : tens + whyNot;
        }

        private void liveLine(Land land, State state, Draws draws, int i) {
            int first = firsts[i];
            draws.x = first;
            switch (acts[i]) {
                case W_DIGS:
                    state.digCell(land, first, seconds[i], thirds[i]);
                    break;
                case W_TOLD:
                    state.status[first] = TOLD;
                    break;
                case W_SOLD:
                    state.sellFind(land, first);
                    break;
                case W_LAID:
                    state.layFind(first, seconds[i], thirds[i]);
                    break;
                case W_GIVEN:
                    state.who[first] = seconds[i];
                    break;
                case W_PLOUGH:
                    state.turnOver(land, draws);
                    break;
                default:
                    state.passNights(land, draws, first);
                    break;
            }
        }
    }

    /** A SENTENCE as a row of steps: each puts the bits of the finds it holds for, or joins those put last. */
    private static final class Sentence {
        private static final int MOST_JOINED = 2 * MOST_ONES;

        private final int[] steps = new int[MOST_JOINED];
        private final int[] firsts = new int[MOST_JOINED];
        private final int[] seconds = new int[MOST_JOINED];
        private final int[] stack = new int[MOST_ONES];
        private int size = 0;
        private int ones = 0;

        Sentence() {
        }

        void clear() {
            size = 0;
            ones = 0;
        }

        void copy(Sentence from) {
            System.arraycopy(from.steps, 0, steps, 0, steps.length);
            System.arraycopy(from.firsts, 0, firsts, 0, firsts.length);
            System.arraycopy(from.seconds, 0, seconds, 0, seconds.length);
            size = from.size;
            ones = from.ones;
        }

        boolean read(Tape tape, Land land) {
            clear();
            tape.begin(MOST_SENTENCE);
            if (!readCond(tape, land, 1)) {
                return false;
            }
            return tape.type == AT_END || tape.fail(NO_TOKEN);
        }

        private void add(int step, int first, int second) {
            if (size < MOST_JOINED) {
                steps[size] = step;
                firsts[size] = first;
                seconds[size] = second;
                size++;
            }
        }

        private boolean readCond(Tape tape, Land land, int within) {
            if (!readAll(tape, land, within)) {
                return false;
            }
            for (int i = 0; i < MOST_SENTENCE && tape.isWord(W_OR); i++) {
                tape.step();
                if (!readAll(tape, land, within)) {
                    return false;
                }
                add(W_OR, 0, 0);
            }
            return true;
        }

        private boolean readAll(Tape tape, Land land, int within) {
            if (!readOne(tape, land, within)) {
                return false;
            }
            for (int i = 0; i < MOST_SENTENCE && tape.isWord(W_AND); i++) {
                tape.step();
                if (!readOne(tape, land, within)) {
                    return false;
                }
                add(W_AND, 0, 0);
            }
            return true;
        }

        private static boolean beginsOne(Tape tape) {
            return tape.type == '(' || tape.isAmong(W_NOT, W_NUMBER - W_NOT + 1)
                || tape.isAmong(W_COIN, KINDS) || tape.isAmong(W_TOLD, 2);
        }

        private boolean readOne(Tape tape, Land land, int within) {
            if (!beginsOne(tape)) {
                return tape.fail(NO_TOKEN);
            }
            if (ones >= MOST_ONES || within > MOST_WITHIN) {
                return tape.fail(TOO_MANY);
            }
            ones++;
            int word = tape.word;
            tape.step();
            if (word == NONE) {
                return readCond(tape, land, within + 1) && tape.takeSign(')');
            }
            if (word == W_NOT) {
                if (!readOne(tape, land, within + 1)) {
                    return false;
                }
                add(W_NOT, 0, 0);
                return true;
            }
            if (word == W_OF) {
                return readHolder(tape, land);
            }
            if (word >= W_YEAR) {
                return readCompare(tape, word);
            }
            add(word, 0, 0);
            return true;
        }

        private boolean readHolder(Tape tape, Land land) {
            if (!tape.isName()) {
                return tape.fail(NO_TOKEN);
            }
            int p = land.personNamed(tape.value);
            if (p < 0) {
                return tape.fail(BAD_NAME);
            }
            tape.step();
            add(W_OF, p, 0);
            return true;
        }

        private boolean readCompare(Tape tape, int word) {
            int sign = tape.type;
            if (!Tape.isCompare(sign)) {
                return tape.fail(NO_TOKEN);
            }
            tape.step();
            if (!tape.takeNumber(0, MOST_NUMBER)) {
                return false;
            }
            add(word, sign, tape.taken);
            return true;
        }

        int bitsOf(Land land, State state) {
            int all = (1 << land.finds) - 1;
            int top = 0;
            for (int i = 0; i < size && i < MOST_JOINED; i++) {
                int step = steps[i];
                if (step == W_NOT && top > 0) {
                    stack[top - 1] = all & ~stack[top - 1];
                } else if (step == W_AND && top > 1) {
                    top--;
                    stack[top - 1] &= stack[top];
                } else if (step == W_OR && top > 1) {
                    top--;
                    stack[top - 1] |= stack[top];
                } else if (top < stack.length) {
                    stack[top] = bitsOfStep(land, state, i);
                    top++;
                }
            }
            return stack[0];
        }

        private int bitsOfStep(Land land, State state, int i) {
            int bits = 0;
            for (int f = 0; f < land.finds; f++) {
                if (holds(land, state, i, f)) {
                    bits |= 1 << f;
                }
            }
            return bits;
        }

        private boolean holds(Land land, State state, int i, int f) {
            int step = steps[i];
            switch (step) {
                case W_GROUND:
                    return state.status[f] == IN_GROUND;
                case W_FOUND:
                    return state.status[f] == HAD;
                case W_TOLD:
                    return state.status[f] == TOLD;
                case W_SOLD:
                    return state.status[f] == SOLD;
                case W_OF:
                    return state.status[f] == HAD && state.who[f] == firsts[i];
                case W_YEAR:
                    return compares(land.factOf(f, YEAR), i);
                case W_VALUE:
                    return compares(land.factOf(f, VALUE), i);
                case W_DEEP:
                    return compares(state.deep[f], i);
                case W_NUMBER:
                    return compares(f, i);
                default:
                    return step >= W_COIN && step <= W_BONE && land.factOf(f, KIND) == step - W_COIN;
            }
        }

        private boolean compares(int left, int i) {
            if (firsts[i] == '<') {
                return left < seconds[i];
            }
            return firsts[i] == '=' ? left == seconds[i] : left > seconds[i];
        }
    }

    /** What was so ahead of each of the latest acts, the oldest given up for a new one. */
    private static final class History {
        private final State[] states = new State[MOST_ACTS];
        private int first = 0;
        private int size = 0;

        History() {
            for (int i = 0; i < MOST_ACTS; i++) {
                states[i] = new State();
            }
        }

        void clear() {
            size = 0;
        }

        void keep(State state) {
            if (size == MOST_ACTS) {
                first = (first + 1) % MOST_ACTS;
                size--;
            }
            State slot = states[(first + size) % MOST_ACTS];
            if (slot != null) {
                slot.copy(state);
            }
            size++;
        }

        boolean takeBack(State state) {
            if (size == 0) {
                return false;
            }
            size--;
            State slot = states[(first + size) % MOST_ACTS];
            if (slot != null) {
                state.copy(slot);
            }
            return true;
        }
    }

    /** A field, all that is so in it and a sentence, as they were kept. */
    private static final class Image {
        private final Land land = new Land();
        private final State state = new State();
        private final Sentence sentence = new Sentence();
        private boolean kept = false;

        Image() {
        }
    }
}
