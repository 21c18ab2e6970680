import java.util.Random;

/** Runs of calls with drawn arguments (always the same ones): the class must answer what the naive model answers. */
final class ModelTest {
    private static final Due due = new Due("ModelTest");
    /** No object is called more than 512 times; one step of a run makes fewer than MOST_OF_A_STEP calls. */
    private static final int RUNS = 600, CALLS = 512, MOST_OF_A_STEP = 170, TEXTS = 40000;
    private static Random random;
    private static CrystalByTheMinute x;
    private static Model m;

    public static void main(String[] args) {
        int runs = args.length > 0 ? Integer.parseInt(args[0]) : RUNS;
        long seed = args.length > 1 ? Long.parseLong(args[1]) : 1;
        random = new Random(seed);
        faultsOfTexts();
        for (int run = 0; run < runs; run++) {
            x = new CrystalByTheMinute();
            m = new Model();
            boolean isSmall = run % 4 != 0;
            int before = due.calls();
            begin(isSmall);
            for (int step = 0; step < (isSmall ? CALLS : 40) && due.calls() - before < CALLS - MOST_OF_A_STEP; step++) {
                call(random.nextInt(28), "run " + run + " step " + step + ": ");
            }
        }
        due.end();
    }

    /** A number, mostly of lo .. hi, now and then one beyond or an odd one. */
    private static int near(int lo, int hi) {
        switch (random.nextInt(40)) {
            case 0: return lo - 1;
            case 1: return hi + 1;
            case 2: return new int[] {Integer.MIN_VALUE, Integer.MAX_VALUE, -1, -2, 1000, 6}[random.nextInt(6)];
            default: return lo + random.nextInt(hi - lo + 1);
        }
    }

    private static int means() {
        return random.nextInt(3) == 0 ? near(0, 999) : near(0, 40);
    }

    private static void begin(boolean isSmall) {
        int figures = isSmall ? random.nextInt(5) : 6;
        int clients = isSmall ? random.nextInt(5) : 5;
        for (int i = 0; i < figures; i++) {
            figure(random.nextInt(6), random.nextInt(10), means(), "begin: ");
        }
        for (int i = 0; i < clients; i++) {
            int h = random.nextInt(12);
            int w = random.nextInt(64);
            due.is("begin: client", x.client(h, w), m.client(h, w));
        }
    }

    private static void figure(int k, int n, int v, String at) {
        due.is(at + "figure(" + k + ", " + n + ", " + v + ")", x.figure(k, n, v), m.figure(k, n, v));
    }

    // ---- texts

    private static String one(int depth) {
        String[] names = {"hour", "number", "means", "wished", "asked", "clients"};
        int r = random.nextInt(depth > 0 ? 9 : 6);
        if (r < 3) {
            return names[random.nextInt(6)];
        }
        if (r < 6) {
            return "" + (random.nextInt(6) == 0 ? random.nextInt(10000) : random.nextInt(12));
        }
        return r == 6 ? "-" + one(depth - 1) : "(" + expression(depth - 1) + ")";
    }

    private static String chain(int level, int depth) {
        if (level == 0) {
            return one(depth);
        }
        if (level == 3) {
            if (depth > 0 && random.nextInt(6) == 0) {
                return " not " + chain(3, depth - 1);
            }
            String s = chain(2, depth);
            return random.nextInt(4) == 0 ? s + (random.nextBoolean() ? "<" : "=") + chain(2, depth) : s;
        }
        String[] signs = {"", "*", random.nextBoolean() ? "+" : "-", "", " and ", " or "};
        String s = chain(level - 1, depth);
        while (random.nextInt(5) == 0) {
            s += signs[level] + chain(level - 1, depth);
        }
        return s;
    }

    private static String expression(int depth) {
        return chain(5, depth);
    }

    private static String text() {
        String s;
        do {
            s = "prices " + expression(3) + ";joys " + expression(3) + ";pays " + expression(3) + ";";
        } while (s.length() > 160);
        return s;
    }

    private static String spoiled(String text) {
        String letters = "();+-*<= \n0123456789abnotrpice\tX_" + (char) 0 + (char) 200;
        StringBuilder b = new StringBuilder(text);
        for (int n = 1 + random.nextInt(2); n > 0 && b.length() > 0; n--) {
            int at = random.nextInt(b.length());
            String[] pieces = {"(", "((", "-", "--", " not ", "not not", ")", "))", ";", "or", "and", "<", "=", " 7", "12345", " "};
            switch (random.nextInt(5)) {
                case 0: b.deleteCharAt(at); break;
                case 1: b.setCharAt(at, letters.charAt(random.nextInt(letters.length()))); break;
                case 2: b.insert(at, letters.charAt(random.nextInt(letters.length()))); break;
                case 3: b.insert(at, pieces[random.nextInt(pieces.length)]); break;
                default: b.setLength(at);
            }
        }
        return b.length() > 160 ? b.substring(0, 160) : b.toString();
    }

    private static String deep() {
        StringBuilder b = new StringBuilder("prices ");
        String[] pieces = {"(", "-", "not ", "1<", "1+", "2 and ", "(1)", "hour", ")", " 1 or ", "*", "=", "1"};
        for (int n = random.nextInt(16); n > 0; n--) {
            b.append(pieces[random.nextInt(pieces.length)]);
        }
        return b + ";joys 1;pays 1;";
    }

    private static void faultsOfTexts() {
        for (int i = 0; i < TEXTS; i++) {
            String t = i % 3 == 0 ? deep() : i % 3 == 1 ? spoiled(text()) : text();
            CrystalByTheMinute y = new CrystalByTheMinute();
            int fault = Model.fault(t);
            due.is("text '" + t + "'", Due.text(y, t), fault == -1 ? 1 : -100 - fault);
        }
    }

    private static void feedText(String at) {
        String t = random.nextInt(4) == 0 ? spoiled(text()) : text();
        for (int i = 0; i < t.length(); i++) {
            due.is(at + "feed", x.feed(t.charAt(i)), m.feed(t.charAt(i)));
        }
        due.is(at + "text() of " + t, x.text(), m.text());
        int n = near(0, m.texts.size() - 1);
        due.is(at + "force(" + n + ")", x.force(n), m.force(n));
    }

    // ---- calls

    private static int sheet() {
        return near(0, 3);
    }

    private static int of() {
        return near(0, Math.max(0, m.st.figs.size() - 1));
    }

    private static void call(int which, String at) {
        int a;
        int b;
        int c;
        switch (which) {
            case 0:
                a = near(0, 5);
                b = near(0, 4);
                c = a == 0 ? near(1, 9) : a == 2 ? means() : near(0, new int[] {9, 9, 999, 4095, 11, 63}[a < 0 || a > 5 ? 0 : a]);
                due.is(at + "set(" + a + ", " + b + ", " + c + ")", x.set(a, b, c), m.set(a, b, c));
                break;
            case 1:
                if (random.nextInt(4) == 0) {
                    figure(near(0, 5), near(0, 9), means(), at);
                }
                break;
            case 2:
                if (random.nextInt(4) == 0) {
                    a = near(0, 11);
                    b = near(0, 63);
                    due.is(at + "client(" + a + ", " + b + ")", x.client(a, b), m.client(a, b));
                }
                break;
            case 3:
                for (int i = 0; i < 12; i++) {
                    a = of();
                    b = near(0, 41);
                    due.is(at + "told(" + a + ", " + b + ")", x.told(a, b), m.told(a, b));
                }
                break;
            case 4:
                for (int i = 0; i < 8; i++) {
                    a = near(0, 4);
                    b = of();
                    c = near(0, 1);
                    due.is(at + "glad(" + a + ", " + b + ", " + c + ")", x.glad(a, b, c), m.glad(a, b, c));
                }
                break;
            case 5:
                a = near(0, 255);
                due.is(at + "feed(" + a + ")", x.feed(a), m.feed(a));
                due.is(at + "text()", x.text(), m.text());
                break;
            case 6:
                if (random.nextInt(3) == 0) {
                    feedText(at);
                }
                break;
            case 7:
                a = near(0, m.texts.size() - 1);
                due.is(at + "force(" + a + ")", x.force(a), m.force(a));
                break;
            case 8: case 9:
                showings(at);
                break;
            case 10:
                a = near(0, 2);
                b = near(0, 2);
                due.is(at + "showing(" + a + ", " + b + ")", x.showing(a, b), m.showing(a, b));
                break;
            case 11:
                if (random.nextInt(3) == 0 || m.st.figs.size() < 4) {
                    a = near(0, 1);
                    due.is(at + "few(" + a + ")", x.few(a), m.few(a));
                }
                break;
            case 12:
                a = near(0, 1);
                due.is(at + "missed(" + a + ")", x.missed(a), m.missed(a));
                break;
            case 13:
                a = near(0, 1);
                due.is(at + "change(" + a + ")", x.change(a), m.change(a));
                break;
            case 14:
                a = means();
                b = near(0, 1);
                due.is(at + "raise(" + a + ", " + b + ")", x.raise(a, b), m.raise(a, b));
                break;
            case 15:
                a = near(0, 1);
                due.is(at + "dear(" + a + ")", x.dear(a), m.dear(a));
                break;
            default:
                hostCall(which, at);
        }
    }

    private static void showings(String at) {
        int s = sheet();
        if (random.nextInt(3) > 0) {
            int n = m.st.clients.size();
            int sort = random.nextInt(3);
            due.is(at + "sheet", x.sheet(s, sort, n), m.sheet(s, sort, n));
            for (int c = 0; c < n; c++) {
                int f = near(-1, Math.max(0, m.st.figs.size() - 1));
                due.is(at + "cell", x.cell(s, c, f), m.cell(s, c, f));
            }
        }
        for (int what : new int[] {0, 1, 2, 10, near(10, 15), near(0, 20)}) {
            due.is(at + "show(" + s + ", " + what + ")", x.show(s, what), m.show(s, what));
        }
        due.is(at + "take(" + s + ")", x.take(s), m.take(s));
    }

    private static void hostCall(int which, String at) {
        int a = sheet();
        int b;
        int c;
        int d;
        switch (which) {
            case 16: case 17:
                b = of();
                c = near(0, 12);
                due.is(at + "film(" + a + ", " + b + ", " + c + ")", x.film(a, b, c), m.film(a, b, c));
                break;
            case 18: case 19:
                b = of();
                for (c = 0; c < (which == 18 ? 5 : 8); c++) {
                    due.is(at + "tells(" + a + ", " + b + ", " + c + ")", x.tells(a, b, c), m.tells(a, b, c));
                }
                break;
            case 20:
                b = random.nextInt();
                due.is(at + "drawn(" + b + ")", x.drawn(b), m.drawn(b));
                break;
            case 21:
                b = random.nextInt();
                c = near(1, 20);
                d = random.nextBoolean() ? near(0, 60) : near(0, 999);
                due.is(at + "chance 0", x.chance(b, c, d, 0), m.chance(b, c, d, 0));
                due.is(at + "chance 1", x.chance(b, c, d, 1), m.chance(b, c, d, 1));
                break;
            case 22:
                if (random.nextBoolean()) {
                    due.is(at + "image()", x.image(), m.image());
                } else {
                    due.is(at + "back()", x.back(), m.back());
                }
                break;
            case 23:
                for (b = -1; b < 7; b++) {
                    due.is(at + "count(" + b + ")", x.count(b), m.count(b));
                }
                break;
            case 24:
                b = near(-1, 2);
                c = near(0, 40);
                due.is(at + "sheet(" + a + ", " + b + ", " + c + ")", x.sheet(a, b, c), m.sheet(a, b, c));
                break;
            case 25:
                for (int i = 0; i < 6; i++) {
                    b = near(0, 12);
                    c = random.nextInt(5) == 0 ? random.nextInt() : near(0, 12);
                    due.is(at + "cell(" + a + ", " + b + ", " + c + ")", x.cell(a, b, c), m.cell(a, b, c));
                }
                break;
            case 26:
                b = near(0, 12);
                c = sheet();
                d = near(0, 12);
                int n = near(0, 12);
                due.is(at + "copy(" + a + ", " + b + ", " + c + ", " + d + ", " + n + ")", x.copy(a, b, c, d, n), m.copy(a, b, c, d, n));
                break;
            default:
                if (random.nextInt(4) == 0) {
                    b = near(0, 2);
                    c = near(0, 20);
                    d = near(0, 6);
                    due.is(at + "figures(" + a + ", " + b + ", " + c + ", " + d + ")", x.figures(a, b, c, d), m.figures(a, b, c, d));
                }
                b = of();
                c = near(0, 5);
                due.is(at + "taken(" + b + ", " + c + ")", x.taken(b, c), m.taken(b, c));
        }
    }
}
