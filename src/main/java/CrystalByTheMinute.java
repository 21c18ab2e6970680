/**
 * A crystal that is rented by the minute to whoever it shows: figures, clients, a keeper,
 * and a rule of texts by which it is told what a showing costs and brings.
 * The numbered promises are in the project's document; README.md tells how to use the class.
 */
public final class CrystalByTheMinute {
    public static final int NONE = -1, BAD = -2, STATE = -3, FULL = -4;
    public static final long NO = -4611686018427387904L;

    private static final int NOTHING = -11, OUTSIDE = -12, OTHER_SORT = -13, BELOW_ZERO = -14;
    private static final int NO_GLADNESS = -1000, NO_ANSWER = -100000, FAULTS = -100;

    private static final int MOST_FIGURES = 6, MOST_CLIENTS = 5, MOST_TEXTS = 6, SHEETS = 4;
    private static final int HOURS = 12, KINDS = 6, NUMBERS = 10, MEANS = 1000, RATES = 10;
    private static final int ALL_HOURS = 4095, ALL_FIGURES = 63;
    private static final int MOST_CELLS = 40, MOST_BYTES = 160, MOST_OPEN = 5, MOST_SEEDS = 20;

    private static final int FIGURE = 0, LADY = 1, CLERK = 2, STRANGER = 3, BURGLAR = 4, LAMP = 5;
    private static final int[] KIND_ABOVE = {NONE, FIGURE, FIGURE, LADY, CLERK, FIGURE};
    private static final int DEAREST = 999, LAMP_DEAREST = 5;

    private static final int BYTES = 0, SHORTS = 1, INTS = 2, MISSING = -1;

    private static final int PRICES = 0, JOYS = 1, PAYS = 2, PARTS = 3, MOST_TOLD = 99;
    private static final int HOUR = 0, NUMBER = 1, OWN_MEANS = 2, WISHED = 3, ASKED = 4, COMERS = 5;
    private static final int NAMES = 6;
    private static final String FIRST_TEXT = "prices 5 ; joys 10 ; pays wished * 8 ;";

    private final Text[] texts = new Text[MOST_TEXTS];
    private int textCount;
    private final Tape tape = new Tape();
    private final World now, would, kept;
    private boolean isKept;
    private final Keeper keeper = new Keeper();
    private final Sheet[] sheets = new Sheet[SHEETS];

    public CrystalByTheMinute() {
        for (int i = 0; i < MOST_TEXTS; i++) {
            texts[i] = new Text();
        }
        for (int i = 0; i < SHEETS; i++) {
            sheets[i] = new Sheet();
        }
        now = new World(texts);
        would = new World(texts);
        kept = new World(texts);
        for (int i = 0; i < FIRST_TEXT.length(); i++) {
            tape.add(FIRST_TEXT.charAt(i));
        }
        tape.read(texts[0]);
        tape.clear();
        textCount = 1;
    }

    // ---- figures, clients

    public int set(int what, int of, int v) {
        if (!now.has(what, of) || !fits(what, v)) {
            return BAD;
        }
        int was = now.property(what, of);
        now.alter(what, of, v);
        return was;
    }

    public int figure(int kind, int number, int means) {
        return now.addFigure(kind, number, means);
    }

    public int client(int hour, int wishes) {
        if (hour < 0 || hour >= HOURS || wishes < 0 || wishes > ALL_FIGURES) {
            return BAD;
        }
        return now.addClient(hour, wishes);
    }

    public int told(int of, int what) {
        if (what >= 0 && what <= 6) {
            return now.has(what, of) ? now.property(what, of) : BAD;
        }
        if (!now.hasFigure(of)) {
            return BAD;
        }
        if (what == 7) {
            return now.asked(of);
        }
        if (what >= 10 && what < 10 + HOURS) {
            return now.costs(of, what - 10);
        }
        if (what >= 30 && what < 30 + HOURS) {
            return now.appears(of, what - 30) ? 1 : 0;
        }
        return BAD;
    }

    public int glad(int client, int figure, int what) {
        if (!now.hasClient(client) || !now.hasFigure(figure)) {
            return NO_GLADNESS;
        }
        switch (what) {
            case 0: return now.gladness(client, figure);
            case 1: return now.payment(client, figure);
            default: return NO_GLADNESS;
        }
    }

    // ---- texts

    public int feed(int letter) {
        if (letter < 0 || letter > 255) {
            return BAD;
        }
        return tape.add(letter) ? tape.size : FULL;
    }

    public int text() {
        if (textCount >= MOST_TEXTS) {
            return FULL;
        }
        int fault = tape.read(texts[textCount]);
        tape.clear();
        if (fault != NONE) {
            return FAULTS - fault;
        }
        textCount++;
        return textCount - 1;
    }

    public int force(int text) {
        if (text < 0 || text >= textCount) {
            return BAD;
        }
        int was = now.rule;
        now.rule = text;
        return was;
    }

    // ---- showings

    public int show(int sheet, int what) {
        Sheet s = sheetOf(sheet);
        boolean isMeans = what >= 10 && now.hasFigure(what - 10);
        if (s == null || !isMeans && (what < 0 || what > 2) || !isShowing(s)) {
            return NO_ANSWER;
        }
        playSheet(s);
        switch (what) {
            case 0: return keeper.stop;
            case 1: return keeper.joySum;
            case 2: return keeper.incomeSum;
            default: return keeper.left[what - 10];
        }
    }

    public int take(int sheet) {
        Sheet s = sheetOf(sheet);
        if (s == null) {
            return BAD;
        }
        if (s.sort == MISSING) {
            return NOTHING;
        }
        if (!isShowing(s)) {
            return BAD;
        }
        playSheet(s);
        if (keeper.stop != NONE) {
            return STATE;
        }
        System.arraycopy(keeper.left, 0, now.means, 0, now.figureCount);
        return keeper.incomeSum;
    }

    public int showing(int how, int what) {
        if (how < 0 || how > 2 || what < 0 || what > 2) {
            return NO_ANSWER;
        }
        keeper.look(now);
        if (how == 2) {
            keeper.showPlainly(now);
        } else {
            keeper.showBest(how == 0 ? keeper.joy : keeper.income, ALL_FIGURES);
        }
        if (what == 0) {
            return keeper.digits();
        }
        keeper.play();
        return what == 1 ? keeper.joySum : keeper.incomeSum;
    }

    // ---- what would be best

    public int few(int what) {
        if (what != 0 && what != 1) {
            return BAD;
        }
        gladdestOf(now);
        int bits = keeper.fewestFigures();
        return what == 0 ? bits : Integer.bitCount(bits);
    }

    public int missed(int what) {
        if (what != 0 && what != 1) {
            return NO_ANSWER;
        }
        int least = gladdestOf(now);
        int who = NONE;
        for (int f = 0; f < now.figureCount; f++) {
            int joy = keeper.showBest(keeper.joy, ALL_FIGURES & ~(1 << f));
            if (who == NONE || joy < least) {
                least = joy;
                who = f;
            }
        }
        return what == 0 ? who : least;
    }

    public int change(int what) {
        if (what != 0 && what != 1) {
            return NO_ANSWER;
        }
        int most = gladdestOf(now);
        int who = NONE;
        for (int a = 0; a < now.clientCount; a++) {
            for (int b = a + 1; b < now.clientCount; b++) {
                would.become(now);
                would.hour[a] = now.hour[b];
                would.hour[b] = now.hour[a];
                int joy = gladdestOf(would);
                if (joy > most) {
                    most = joy;
                    who = 10 * a + b;
                }
            }
        }
        return what == 0 ? who : most;
    }

    public int raise(int k, int what) {
        if (k < 0 || k >= MEANS || what != 0 && what != 1) {
            return NO_ANSWER;
        }
        int most = gladdestOf(now);
        int who = NONE;
        for (int f = 0; f < now.figureCount; f++) {
            would.become(now);
            would.means[f] = Math.min(now.means[f] + k, MEANS - 1);
            int joy = gladdestOf(would);
            if (joy > most) {
                most = joy;
                who = f;
            }
        }
        return what == 0 ? who : most;
    }

    public int dear(int what) {
        if (what != 0 && what != 1) {
            return NO_ANSWER;
        }
        int most = NONE;
        int rate = 1;
        for (int r = 1; r < RATES; r++) {
            would.become(now);
            would.rate = r;
            keeper.look(would);
            int income = keeper.showBest(keeper.income, ALL_FIGURES);
            if (income > most) {
                most = income;
                rate = r;
            }
        }
        return what == 0 ? rate : most;
    }

    // ---- costs that were told

    public int tells(int sheet, int figure, int what) {
        Sheet s = sheetOf(sheet);
        if (s == null || !now.hasFigure(figure) || what < 0 || what > 6) {
            return BAD;
        }
        if (s.sort == MISSING) {
            return NOTHING;
        }
        if (s.size > HOURS) {
            return BAD;
        }
        switch (what) {
            case 0: return now.firstOtherwise(figure, s);
            case 1: return kindsTold(s, figure);
            case 2: return numbersTold(s, figure);
            case 3: return ratesTold(s, figure);
            case 4: return textsTold(s, figure);
            default: return meansTold(s, figure, what == 6);
        }
    }

    public int film(int sheet, int figure, int n) {
        Sheet s = sheetOf(sheet);
        if (s == null || !now.hasFigure(figure) || n < 0 || n > HOURS) {
            return BAD;
        }
        s.become(SHORTS, n);
        for (int h = 0; h < n; h++) {
            s.put(h, now.costs(figure, h));
        }
        return n;
    }

    public int drawn(int seed) {
        would.become(now);
        return plainJoyDrawn(seed);
    }

    public long chance(int seed, int n, int k, int part) {
        if (n < 1 || n > MOST_SEEDS || k < 0 || k >= MEANS || part != 0 && part != 1) {
            return NO;
        }
        would.become(now);
        int times = 0;
        for (int i = 0; i < n; i++) {
            if (plainJoyDrawn(seed + i) >= k) {
                times++;
            }
        }
        int divisor = commonDivisor(times, n);
        return part == 0 ? times / divisor : n / divisor;
    }

    public int image() {
        kept.become(now);
        isKept = true;
        return now.figureCount;
    }

    public int back() {
        if (!isKept) {
            return STATE;
        }
        now.become(kept);
        return now.figureCount;
    }

    public int count(int what) {
        switch (what) {
            case 0: return now.figureCount;
            case 1: return now.clientCount;
            case 2: return now.meansOfAll();
            case 3: return textCount;
            case 4: return tape.size;
            case 5: return now.rule;
            default: return BAD;
        }
    }

    // ---- the host

    public int sheet(int sheet, int sort, int n) {
        Sheet s = sheetOf(sheet);
        if (s == null || sort < MISSING || sort > INTS) {
            return BAD;
        }
        if (sort == MISSING) {
            s.become(MISSING, 0);
            return 1;
        }
        if (n > MOST_CELLS) {
            return BAD;
        }
        if (n < 0) {
            return BELOW_ZERO;
        }
        s.become(sort, n);
        return 1;
    }

    public int cell(int sheet, int i, int v) {
        Sheet s = sheetOf(sheet);
        if (s == null) {
            return BAD;
        }
        if (s.sort == MISSING) {
            return NOTHING;
        }
        if (!s.holds(i, 1)) {
            return OUTSIDE;
        }
        s.put(i, v);
        return 1;
    }

    public int copy(int sheet, int i, int other, int j, int n) {
        Sheet from = sheetOf(sheet);
        Sheet to = sheetOf(other);
        if (from == null || to == null) {
            return BAD;
        }
        if (from.sort == MISSING || to.sort == MISSING) {
            return NOTHING;
        }
        if (from.sort != to.sort) {
            return OTHER_SORT;
        }
        if (!from.holds(i, n) || !to.holds(j, n)) {
            return OUTSIDE;
        }
        System.arraycopy(from.row, i, to.row, j, n);
        return n;
    }

    public int figures(int sheet, int sort, int from, int n) {
        Sheet s = sheetOf(sheet);
        if (s == null || sort < BYTES || sort > INTS || n < 0 || n > MOST_FIGURES) {
            return BAD;
        }
        // what is missing could be of any sort, so it is no thing of another one
        if (s.sort != MISSING && s.sort != sort) {
            return OTHER_SORT;
        }
        if (s.sort == MISSING) {
            return NOTHING;
        }
        int came = 0;
        for (int t = 0; t < n; t++) {
            int at = from + 3 * t;
            if (!s.holds(at, 3)) {
                return OUTSIDE;
            }
            if (now.addFigure(s.row[at], s.row[at + 1], s.row[at + 2]) >= 0) {
                came++;
            }
        }
        return came;
    }

    public int taken(int figure, int k) {
        if (k < 0 || k >= KINDS) {
            return BAD;
        }
        if (!now.hasFigure(figure)) {
            return NOTHING;
        }
        return isUnder(now.kind[figure], k) ? now.number[figure] : OTHER_SORT;
    }

    // ---- what the calls share

    private Sheet sheetOf(int sheet) {
        return sheet < 0 || sheet >= SHEETS ? null : sheets[sheet];
    }

    private static boolean fits(int what, int v) {
        switch (what) {
            case 0: return v >= 1 && v < RATES;
            case 1: return v >= 0 && v < NUMBERS;
            case 2: return v >= 0 && v < MEANS;
            case 3: return v >= 0 && v <= ALL_HOURS;
            case 4: return v >= 0 && v < HOURS;
            case 5: return v >= 0 && v <= ALL_FIGURES;
            default: return false;
        }
    }

    private static boolean isUnder(int kind, int above) {
        int at = kind;
        for (int i = 0; i < KINDS && at >= 0 && at < KINDS; i++) {
            if (at == above) {
                return true;
            }
            at = KIND_ABOVE[at];
        }
        return false;
    }

    private boolean isShowing(Sheet s) {
        if (s.sort == MISSING || s.size != now.clientCount) {
            return false;
        }
        for (int c = 0; c < s.size; c++) {
            if (s.row[c] != NONE && !now.hasFigure(s.row[c])) {
                return false;
            }
        }
        return true;
    }

    private void playSheet(Sheet s) {
        keeper.look(now);
        System.arraycopy(s.row, 0, keeper.shown, 0, now.clientCount);
        keeper.play();
    }

    private int gladdestOf(World w) {
        keeper.look(w);
        return keeper.showBest(keeper.joy, ALL_FIGURES);
    }

    /** Only MEANS are drawn, each time all of them, so that `would` need not become anew for each seed. */
    private int plainJoyDrawn(int seed) {
        int z = seed;
        for (int f = 0; f < would.figureCount; f++) {
            z = z * 1103515245 + 12345;
            would.means[f] = (z >>> 9) % 100;
        }
        keeper.look(would);
        keeper.showPlainly(would);
        keeper.play();
        return keeper.joySum;
    }

    /** Of a count of 0 it is n itself, so that 0 in n becomes 0 in 1. */
    private static int commonDivisor(int times, int n) {
        for (int d = n; d > 1; d--) {
            if (n % d == 0 && times % d == 0) {
                return d;
            }
        }
        return 1;
    }

    private int kindsTold(Sheet s, int figure) {
        int bits = 0;
        would.become(now);
        for (int k = 0; k < KINDS; k++) {
            would.kind[figure] = k;
            bits |= would.firstOtherwise(figure, s) == NONE ? 1 << k : 0;
        }
        return bits;
    }

    private int numbersTold(Sheet s, int figure) {
        int bits = 0;
        would.become(now);
        for (int n = 0; n < NUMBERS; n++) {
            would.number[figure] = n;
            bits |= would.firstOtherwise(figure, s) == NONE ? 1 << n : 0;
        }
        return bits;
    }

    private int ratesTold(Sheet s, int figure) {
        int bits = 0;
        would.become(now);
        for (int r = 1; r < RATES; r++) {
            would.rate = r;
            bits |= would.firstOtherwise(figure, s) == NONE ? 1 << r : 0;
        }
        return bits;
    }

    private int textsTold(Sheet s, int figure) {
        int bits = 0;
        would.become(now);
        for (int t = 0; t < textCount; t++) {
            would.rule = t;
            bits |= would.firstOtherwise(figure, s) == NONE ? 1 << t : 0;
        }
        return bits;
    }

    private int meansTold(Sheet s, int figure, boolean isLeastAsked) {
        // a thousand readings of a text that does not look at means would all say the same
        if (!texts[now.rule].pricesLookAtMeans()) {
            boolean isSo = now.firstOtherwise(figure, s) == NONE;
            return isLeastAsked ? (isSo ? 0 : NONE) : (isSo ? MEANS : 0);
        }
        int many = 0;
        int least = NONE;
        would.become(now);
        for (int m = 0; m < MEANS; m++) {
            would.means[figure] = m;
            if (would.firstOtherwise(figure, s) == NONE) {
                many++;
                least = least == NONE ? m : least;
            }
        }
        return isLeastAsked ? least : many;
    }

    /** A row of numbers of a sort, or missing; the cells are ints, narrowed as the sort asks when they are put. */
    private static final class Sheet {
        int sort = MISSING, size;
        final int[] row = new int[MOST_CELLS];

        void become(int newSort, int n) {
            sort = newSort;
            size = n;
            for (int i = 0; i < MOST_CELLS; i++) {
                row[i] = 0;
            }
        }

        boolean holds(int i, int n) {
            return i >= 0 && n >= 0 && n <= size && i <= size - n;
        }

        void put(int i, int v) {
            if (!holds(i, 1)) {
                return;
            }
            row[i] = sort == BYTES ? (byte) v : sort == SHORTS ? (short) v : v;
        }
    }

    /** The figures and clients with the rate and the rule that they live by: as they are, as they would be, or as they were kept. */
    private static final class World {
        final Text[] texts;
        int rate = 1, rule, figureCount, clientCount;
        final int[] kind = new int[MOST_FIGURES], number = new int[MOST_FIGURES];
        final int[] means = new int[MOST_FIGURES], up = new int[MOST_FIGURES];
        final int[] hour = new int[MOST_CLIENTS], wishes = new int[MOST_CLIENTS];
        final int[] names = new int[NAMES];

        World(Text[] texts) {
            this.texts = texts;
        }

        void become(World w) {
            rate = w.rate;
            rule = w.rule;
            figureCount = w.figureCount;
            clientCount = w.clientCount;
            System.arraycopy(w.kind, 0, kind, 0, MOST_FIGURES);
            System.arraycopy(w.number, 0, number, 0, MOST_FIGURES);
            System.arraycopy(w.means, 0, means, 0, MOST_FIGURES);
            System.arraycopy(w.up, 0, up, 0, MOST_FIGURES);
            System.arraycopy(w.hour, 0, hour, 0, MOST_CLIENTS);
            System.arraycopy(w.wishes, 0, wishes, 0, MOST_CLIENTS);
        }

        boolean hasFigure(int f) {
            return f >= 0 && f < figureCount;
        }

        boolean hasClient(int c) {
            return c >= 0 && c < clientCount;
        }

        boolean has(int what, int of) {
            switch (what) {
                case 0: return true;
                case 1: case 2: case 3: case 6: return hasFigure(of);
                case 4: case 5: return hasClient(of);
                default: return false;
            }
        }

        int property(int what, int of) {
            if (!has(what, of)) {
                return BAD;
            }
            switch (what) {
                case 0: return rate;
                case 1: return number[of];
                case 2: return means[of];
                case 3: return up[of];
                case 4: return hour[of];
                case 5: return wishes[of];
                default: return kind[of];
            }
        }

        void alter(int what, int of, int v) {
            if (!has(what, of)) {
                return;
            }
            switch (what) {
                case 0: rate = v; break;
                case 1: number[of] = v; break;
                case 2: means[of] = v; break;
                case 3: up[of] = v; break;
                case 4: hour[of] = v; break;
                case 5: wishes[of] = v; break;
                default: break;
            }
        }

        int addFigure(int newKind, int newNumber, int newMeans) {
            if (newKind < 0 || newKind >= KINDS || newNumber < 0 || newNumber >= NUMBERS
                    || newMeans < 0 || newMeans >= MEANS) {
                return BAD;
            }
            if (figureCount >= MOST_FIGURES) {
                return FULL;
            }
            int f = figureCount;
            kind[f] = newKind;
            number[f] = newNumber;
            means[f] = newMeans;
            up[f] = ALL_HOURS;
            figureCount++;
            return f;
        }

        int addClient(int newHour, int newWishes) {
            if (clientCount >= MOST_CLIENTS) {
                return FULL;
            }
            int c = clientCount;
            hour[c] = newHour;
            wishes[c] = newWishes;
            clientCount++;
            return c;
        }

        int meansOfAll() {
            int sum = 0;
            for (int f = 0; f < figureCount; f++) {
                sum += means[f];
            }
            return sum;
        }

        boolean isWished(int c, int f) {
            return (wishes[c] >> f & 1) == 1;
        }

        int asked(int f) {
            int many = 0;
            for (int c = 0; c < clientCount; c++) {
                many += wishes[c] >> f & 1;
            }
            return many;
        }

        int comers(int h) {
            int many = 0;
            for (int c = 0; c < clientCount; c++) {
                many += hour[c] == h ? 1 : 0;
            }
            return many;
        }

        boolean appears(int f, int h) {
            if ((up[f] >> h & 1) == 0) {
                return false;
            }
            boolean asLady = h >= 2 && h <= 5;
            switch (kind[f]) {
                case LADY: return asLady;
                case STRANGER: return asLady || h == number[f];
                case BURGLAR: return h % 3 == number[f] % 3;
                case LAMP: return h % 2 == 0;
                default: return true;
            }
        }

        int costs(int f, int h) {
            if (kind[f] == BURGLAR) {
                return 0;
            }
            int w = ruled(PRICES, f, h, false) * rate;
            switch (kind[f]) {
                case LADY: return Math.min(2 * w, DEAREST);
                case CLERK: return w / 2;
                case STRANGER: return Math.min(2 * w + number[f], DEAREST);
                case LAMP: return Math.min(w, LAMP_DEAREST);
                default: return Math.min(w, DEAREST);
            }
        }

        int gladness(int c, int f) {
            if (kind[f] == LAMP) {
                return 1;
            }
            int asFigure = isWished(c, f) ? ruled(JOYS, f, hour[c], true) : 0;
            switch (kind[f]) {
                case LADY: return asFigure + 2;
                case CLERK: return asFigure / 2;
                case STRANGER: return 2 * (asFigure + 2);
                case BURGLAR: return asFigure / 2 - 9;
                default: return asFigure;
            }
        }

        int payment(int c, int f) {
            return ruled(PAYS, f, hour[c], isWished(c, f));
        }

        private int ruled(int part, int f, int h, boolean isWished) {
            names[HOUR] = h;
            names[NUMBER] = number[f];
            names[OWN_MEANS] = means[f];
            names[WISHED] = isWished ? 1 : 0;
            names[ASKED] = asked(f);
            names[COMERS] = comers(h);
            int v = texts[rule].value(part, names);
            return Math.min(Math.max(v, part == JOYS ? -MOST_TOLD : 0), MOST_TOLD);
        }

        int firstOtherwise(int f, Sheet s) {
            for (int h = 0; h < s.size && h < HOURS; h++) {
                if (s.row[h] != costs(f, h)) {
                    return h;
                }
            }
            return NONE;
        }
    }

    /** Shows figures to clients: of the world that it last looked at it holds all that a showing needs. */
    private static final class Keeper {
        /** By client and figure; a figure that does not appear in the client's hour has NONE for its cost. */
        final int[][] cost = new int[MOST_CLIENTS][MOST_FIGURES];
        final int[][] joy = new int[MOST_CLIENTS][MOST_FIGURES];
        final int[][] income = new int[MOST_CLIENTS][MOST_FIGURES];
        final int[] means = new int[MOST_FIGURES], left = new int[MOST_FIGURES];
        final int[] shown = new int[MOST_CLIENTS], tried = new int[MOST_CLIENTS];
        /** By client: more than this can't come of that client and those behind. */
        final int[] hope = new int[MOST_CLIENTS + 1];
        int figureCount, clientCount, allowed, best, fewest;
        int stop, joySum, incomeSum;

        void look(World w) {
            figureCount = w.figureCount;
            clientCount = w.clientCount;
            System.arraycopy(w.means, 0, means, 0, MOST_FIGURES);
            for (int c = 0; c < clientCount; c++) {
                for (int f = 0; f < figureCount; f++) {
                    cost[c][f] = NONE;
                    if (w.appears(f, w.hour[c])) {
                        cost[c][f] = w.costs(f, w.hour[c]);
                        joy[c][f] = w.gladness(c, f);
                        income[c][f] = cost[c][f] + w.payment(c, f);
                    }
                }
            }
        }

        private void fillPurses() {
            System.arraycopy(means, 0, left, 0, MOST_FIGURES);
        }

        private boolean canBe(int c, int f) {
            return cost[c][f] != NONE && cost[c][f] <= left[f];
        }

        /** Goes through what is shown, up to the first client of whom it can't be. */
        void play() {
            fillPurses();
            stop = NONE;
            joySum = 0;
            incomeSum = 0;
            for (int c = 0; c < clientCount; c++) {
                int f = shown[c];
                if (f < 0 || f >= figureCount) {
                    continue;
                }
                if (!canBe(c, f)) {
                    stop = c;
                    break;
                }
                left[f] -= cost[c][f];
                joySum += joy[c][f];
                incomeSum += income[c][f];
            }
        }

        int digits() {
            int digits = 0;
            for (int c = 0; c < clientCount; c++) {
                digits = digits * 10 + shown[c] + 1;
            }
            return digits;
        }

        void showPlainly(World w) {
            fillPurses();
            for (int c = 0; c < clientCount; c++) {
                shown[c] = NONE;
                for (int f = 0; f < figureCount && shown[c] == NONE; f++) {
                    if (w.isWished(c, f) && canBe(c, f)) {
                        shown[c] = f;
                        left[f] -= cost[c][f];
                    }
                }
            }
        }

        /** Shows the first of the showings that bring most gain, of allowed figures (bits): the gain. */
        int showBest(int[][] gain, int allowedFigures) {
            allowed = allowedFigures;
            fillPurses();
            hopeFor(gain);
            for (int c = 0; c < MOST_CLIENTS; c++) {
                shown[c] = NONE;
            }
            best = 0;
            search(this, gain, 0, 0);
            return best;
        }

        private boolean isAllowed(int c, int f) {
            return (allowed >> f & 1) == 1 && canBe(c, f);
        }

        private void hopeFor(int[][] gain) {
            hope[clientCount] = 0;
            for (int c = clientCount - 1; c >= 0; c--) {
                int most = 0;
                for (int f = 0; f < figureCount; f++) {
                    if (isAllowed(c, f)) {
                        most = Math.max(most, gain[c][f]);
                    }
                }
                hope[c] = hope[c + 1] + most;
            }
        }

        /**
         * Tries fog first and figures by numbers, so that of like showings the first one met is the first one.
         * It is told the keeper, for by LANGUAGE.md only a static method may call itself.
         */
        private static void search(Keeper k, int[][] gain, int c, int sum) {
            if (c >= k.clientCount) {
                if (sum > k.best) {
                    k.best = sum;
                    System.arraycopy(k.tried, 0, k.shown, 0, k.clientCount);
                }
                return;
            }
            if (sum + k.hope[c] <= k.best) {
                return;
            }
            k.tried[c] = NONE;
            search(k, gain, c + 1, sum);
            for (int f = 0; f < k.figureCount; f++) {
                if (k.isAllowed(c, f)) {
                    k.tried[c] = f;
                    k.left[f] -= k.cost[c][f];
                    search(k, gain, c + 1, sum + gain[c][f]);
                    k.left[f] += k.cost[c][f];
                }
            }
        }

        /**
         * Behind showBest of joy. The fewest figures that would do are just those of some gladdest
         * showing: fewer could not show it, and one more than it shows would not be the fewest.
         */
        int fewestFigures() {
            fewest = ALL_FIGURES;
            fillPurses();
            searchFewest(this, 0, 0, 0);
            return fewest;
        }

        private static void searchFewest(Keeper k, int c, int sum, int used) {
            if (sum + k.hope[c] < k.best || Integer.bitCount(used) > Integer.bitCount(k.fewest)) {
                return;
            }
            if (c >= k.clientCount) {
                if (used < k.fewest || Integer.bitCount(used) < Integer.bitCount(k.fewest)) {
                    k.fewest = used;
                }
                return;
            }
            searchFewest(k, c + 1, sum, used);
            for (int f = 0; f < k.figureCount; f++) {
                if (k.isAllowed(c, f)) {
                    k.left[f] -= k.cost[c][f];
                    searchFewest(k, c + 1, sum + k.joy[c][f], used | 1 << f);
                    k.left[f] += k.cost[c][f];
                }
            }
        }
    }

    /** What a text tells of prices, joys and pays: three rows of steps for a machine with a stack. */
    private static final class Text {
        /** A step from 0 on puts that number, from LAST_NAME to -1 a name's, others work on what lies on top. */
        static final int LAST_NAME = -NAMES;
        static final int OR = -10, AND = -11, NOT = -12, LESS = -13, EQUAL = -14;
        static final int PLUS = -15, MINUS = -16, TIMES = -17, NEGATE = -18;

        final int[] steps = new int[MOST_BYTES];
        final int[] ends = new int[PARTS];
        /** Five open signs leave six levels, on each of which five numbers can wait at most. */
        final int[] stack = new int[32];
        int size;

        void clear() {
            size = 0;
            for (int part = 0; part < PARTS; part++) {
                ends[part] = 0;
            }
        }

        void add(int step) {
            if (size < MOST_BYTES) {
                steps[size] = step;
                size++;
            }
        }

        void end(int part) {
            if (part >= 0 && part < PARTS) {
                ends[part] = size;
            }
        }

        boolean pricesLookAtMeans() {
            for (int i = 0; i < ends[PRICES]; i++) {
                if (steps[i] == -1 - OWN_MEANS) {
                    return true;
                }
            }
            return false;
        }

        int value(int part, int[] names) {
            if (part < 0 || part >= PARTS) {
                return 0;
            }
            int top = 0;
            for (int i = part == 0 ? 0 : ends[part - 1]; i < ends[part]; i++) {
                int step = steps[i];
                if (step >= LAST_NAME) {
                    if (top < stack.length) {
                        stack[top] = step >= 0 ? step : names[-1 - step];
                        top++;
                    }
                } else if (step == NOT || step == NEGATE) {
                    if (top >= 1) {
                        stack[top - 1] = step == NEGATE ? -stack[top - 1] : stack[top - 1] == 0 ? 1 : 0;
                    }
                } else if (top >= 2) {
                    stack[top - 2] = joined(step, stack[top - 2], stack[top - 1]);
                    top--;
                }
            }
            return top >= 1 ? stack[0] : 0;
        }

        private static int joined(int step, int a, int b) {
            switch (step) {
                case OR: return a != 0 || b != 0 ? 1 : 0;
                case AND: return a != 0 && b != 0 ? 1 : 0;
                case LESS: return a < b ? 1 : 0;
                case EQUAL: return a == b ? 1 : 0;
                case PLUS: return a + b;
                case MINUS: return a - b;
                default: return a * b;
            }
        }
    }

    /** The tape, and the reading of it: by one token ahead, so that the first token that can't stand is the one at hand. */
    private static final class Tape {
        /** A sign's token is its byte; the others stand behind the bytes, the words in the order of wordOf(). */
        static final int END = 256, BROKEN = 257, A_NUMBER = 258, FIRST_WORD = 260, WORDS = 12;
        static final int FIRST_KEY = 260, OR_KEY = 263, AND_KEY = 264, NOT_KEY = 265, FIRST_NAME = 266;
        static final int MOST_DIGITS = 4;

        final int[] bytes = new int[MOST_BYTES];
        int size;
        private int at, token, start, worth;

        boolean add(int letter) {
            if (size >= MOST_BYTES) {
                return false;
            }
            bytes[size] = letter;
            size++;
            return true;
        }

        void clear() {
            size = 0;
        }

        /** The place of the fault, or NONE. */
        int read(Text t) {
            t.clear();
            at = 0;
            advance();
            for (int part = 0; part < PARTS; part++) {
                if (!pass(FIRST_KEY + part) || !readE(t, 0) || !pass(';')) {
                    return start;
                }
                t.end(part);
            }
            return token == END ? NONE : start;
        }

        private boolean pass(int wanted) {
            if (token != wanted) {
                return false;
            }
            advance();
            return true;
        }

        private boolean readE(Text t, int open) {
            if (!readAnd(t, open)) {
                return false;
            }
            for (int i = 0; i < MOST_BYTES && token == OR_KEY; i++) {
                advance();
                if (!readAnd(t, open)) {
                    return false;
                }
                t.add(Text.OR);
            }
            return true;
        }

        private boolean readAnd(Text t, int open) {
            if (!readNot(t, open)) {
                return false;
            }
            for (int i = 0; i < MOST_BYTES && token == AND_KEY; i++) {
                advance();
                if (!readNot(t, open)) {
                    return false;
                }
                t.add(Text.AND);
            }
            return true;
        }

        private boolean readNot(Text t, int open) {
            int nots = 0;
            for (; token == NOT_KEY && open + nots < MOST_OPEN; nots++) {
                advance();
            }
            if (!readComparison(t, open + nots)) {
                return false;
            }
            for (int i = 0; i < nots; i++) {
                t.add(Text.NOT);
            }
            return true;
        }

        /** A not that had no room is still at hand, and is none that a SUM begins with. */
        private boolean readComparison(Text t, int open) {
            if (!readSum(t, open)) {
                return false;
            }
            if (token != '<' && token != '=') {
                return true;
            }
            int step = token == '<' ? Text.LESS : Text.EQUAL;
            advance();
            if (!readSum(t, open)) {
                return false;
            }
            t.add(step);
            return true;
        }

        private boolean readSum(Text t, int open) {
            if (!readTerm(t, open)) {
                return false;
            }
            for (int i = 0; i < MOST_BYTES && (token == '+' || token == '-'); i++) {
                int step = token == '+' ? Text.PLUS : Text.MINUS;
                advance();
                if (!readTerm(t, open)) {
                    return false;
                }
                t.add(step);
            }
            return true;
        }

        private boolean readTerm(Text t, int open) {
            if (!readOne(t, open)) {
                return false;
            }
            for (int i = 0; i < MOST_BYTES && token == '*'; i++) {
                advance();
                if (!readOne(t, open)) {
                    return false;
                }
                t.add(Text.TIMES);
            }
            return true;
        }

        private boolean readOne(Text t, int open) {
            int minuses = 0;
            for (; token == '-' && open + minuses < MOST_OPEN; minuses++) {
                advance();
            }
            if (!readOperand(t, open + minuses)) {
                return false;
            }
            for (int i = 0; i < minuses; i++) {
                t.add(Text.NEGATE);
            }
            return true;
        }

        /** A minus that had no room is still at hand, and is no operand. */
        private boolean readOperand(Text t, int open) {
            if (token == A_NUMBER) {
                t.add(worth);
                advance();
                return true;
            }
            if (token >= FIRST_NAME && token < FIRST_WORD + WORDS) {
                t.add(FIRST_NAME - 1 - token);
                advance();
                return true;
            }
            if (token != '(' || open >= MOST_OPEN) {
                return false;
            }
            advance();
            return readE(t, open + 1) && pass(')');
        }

        private void advance() {
            for (; at < size && (bytes[at] == ' ' || bytes[at] == '\n'); at++) {
                // blanks may stand between
            }
            start = at;
            if (at >= size) {
                token = END;
            } else if (isLetter(bytes[at])) {
                takeWord();
            } else if (isDigit(bytes[at])) {
                takeNumber();
            } else {
                token = isSign(bytes[at]) ? bytes[at] : BROKEN;
                at++;
            }
        }

        private void takeWord() {
            for (; at < size && isLetter(bytes[at]); at++) {
                // each word is as long as can be
            }
            token = BROKEN;
            for (int w = 0; w < WORDS; w++) {
                if (isHere(wordOf(w))) {
                    token = FIRST_WORD + w;
                }
            }
        }

        private boolean isHere(String word) {
            if (word.length() != at - start) {
                return false;
            }
            for (int i = 0; i < word.length() && start + i < size; i++) {
                if (word.charAt(i) != bytes[start + i]) {
                    return false;
                }
            }
            return true;
        }

        private void takeNumber() {
            worth = 0;
            for (; at < size && isDigit(bytes[at]); at++) {
                worth = worth * 10 + bytes[at] - '0';
            }
            token = at - start > MOST_DIGITS ? BROKEN : A_NUMBER;
        }

        private static String wordOf(int w) {
            switch (w) {
                case 0: return "prices";
                case 1: return "joys";
                case 2: return "pays";
                case 3: return "or";
                case 4: return "and";
                case 5: return "not";
                case 6: return "hour";
                case 7: return "number";
                case 8: return "means";
                case 9: return "wished";
                case 10: return "asked";
                default: return "clients";
            }
        }

        private static boolean isLetter(int b) {
            return b >= 'a' && b <= 'z';
        }

        private static boolean isDigit(int b) {
            return b >= '0' && b <= '9';
        }

        private static boolean isSign(int b) {
            switch (b) {
                case '(': case ')': case ';': case '+': case '-': case '*': case '<': case '=': return true;
                default: return false;
            }
        }
    }
}
