import java.util.ArrayList;
import java.util.Arrays;
import java.util.List;
import java.util.function.IntPredicate;

/**
 * The document, written once more in the most naive way (every showing is tried, every text is split
 * anew at its loosest sign), so that runs of calls can be compared. It shares no code with the class.
 */
final class Model {
    static final class Fig implements Cloneable {
        int kind, number, means, up = 4095;

        Fig copy() {
            Fig f = new Fig();
            f.kind = kind;
            f.number = number;
            f.means = means;
            f.up = up;
            return f;
        }
    }

    static final class State {
        int rate = 1, rule;
        List<Fig> figs = new ArrayList<>();
        List<int[]> clients = new ArrayList<>();

        State copy() {
            State s = new State();
            s.rate = rate;
            s.rule = rule;
            for (Fig f : figs) {
                s.figs.add(f.copy());
            }
            for (int[] c : clients) {
                s.clients.add(c.clone());
            }
            return s;
        }
    }

    /** Joy, income, the first who can't be, what is left. */
    static final class Outcome {
        int joy, income, stop = -1;
        int[] left;
    }

    State st = new State();
    State image;
    List<String> texts = new ArrayList<>(List.of("prices 5 ; joys 10 ; pays wished * 8 ;"));
    StringBuilder tape = new StringBuilder();
    int[] sorts = {-1, -1, -1, -1};
    int[][] sheets = new int[4][];

    // ---- texts

    static boolean blank(char c) {
        return c == 32 || c == 10;
    }

    /** Tokens with their places; null where no token begins. */
    static List<String> tokens(String text, List<Integer> places) {
        List<String> all = new ArrayList<>();
        int i = 0;
        while (i < text.length()) {
            char c = text.charAt(i);
            int from = i;
            if (blank(c)) {
                i++;
                continue;
            }
            if (c >= 'a' && c <= 'z') {
                while (i < text.length() && text.charAt(i) >= 'a' && text.charAt(i) <= 'z') {
                    i++;
                }
                all.add(text.substring(from, i));
            } else if (c >= '0' && c <= '9') {
                while (i < text.length() && text.charAt(i) >= '0' && text.charAt(i) <= '9') {
                    i++;
                }
                all.add(text.substring(from, i));
            } else {
                i++;
                all.add("();+-*<=".indexOf(c) >= 0 ? "" + c : null);
            }
            places.add(from);
        }
        return all;
    }

    static final List<String> NAMES = List.of("hour", "number", "means", "wished", "asked", "clients");

    static boolean isOperand(String t) {
        return NAMES.contains(t) || t.matches("[0-9]{1,4}");
    }

    /** The fault of a text by a walk over its tokens with a stack of what is open; -1 if it has none. */
    static int fault(String text) {
        List<Integer> places = new ArrayList<>();
        List<String> tokens = tokens(text, places);
        tokens.add("END");
        places.add(text.length());
        String[] heads = {"prices", "joys", "pays"};
        int part = 0;
        // what comes next: H a head, V what a NOT begins with, S what a SUM begins with, O what a ONE begins with, A after a ONE
        char next = 'H';
        // open: '(' with whether a comparison stood on its level, 'n', '-'
        ArrayList<Character> open = new ArrayList<>();
        ArrayList<Boolean> compared = new ArrayList<>();
        compared.add(false);
        for (int i = 0; i < tokens.size(); i++) {
            String t = tokens.get(i);
            int place = places.get(i);
            if (t == null) {
                return place;
            }
            if (next == 'H') {
                if (part == 3) {
                    return t.equals("END") ? -1 : place;
                }
                if (!t.equals(heads[part])) {
                    return place;
                }
                next = 'V';
            } else if (next == 'V' || next == 'S') {
                boolean opens = t.equals("(") || t.equals("-") || t.equals("not") && next == 'V';
                if (opens) {
                    if (open.size() == 5) {
                        return place;
                    }
                    open.add(t.charAt(0));
                    if (t.equals("(")) {
                        compared.add(false);
                        next = 'V';
                    } else if (t.equals("-")) {
                        next = 'S';
                    }
                } else if (isOperand(t)) {
                    dropMinuses(open);
                    next = 'A';
                } else {
                    return place;
                }
            } else {
                boolean level = compared.get(compared.size() - 1);
                if (t.equals("+") || t.equals("-") || t.equals("*")) {
                    next = 'S';
                } else if ((t.equals("<") || t.equals("=")) && !level) {
                    compared.set(compared.size() - 1, true);
                    next = 'S';
                } else if (t.equals("and") || t.equals("or")) {
                    dropNots(open);
                    compared.set(compared.size() - 1, false);
                    next = 'V';
                } else if (t.equals(")") && open.contains('(')) {
                    dropNots(open);
                    open.remove(open.size() - 1);
                    compared.remove(compared.size() - 1);
                    dropMinuses(open);
                } else if (t.equals(";") && !open.contains('(')) {
                    open.clear();
                    compared.set(0, false);
                    part++;
                    next = 'H';
                } else {
                    return place;
                }
            }
        }
        throw new IllegalStateException(text);
    }

    static void dropMinuses(ArrayList<Character> open) {
        while (!open.isEmpty() && open.get(open.size() - 1) == '-') {
            open.remove(open.size() - 1);
        }
    }

    static void dropNots(ArrayList<Character> open) {
        while (!open.isEmpty() && open.get(open.size() - 1) == 'n') {
            open.remove(open.size() - 1);
        }
    }

    /** The place of the last (or first) token on the outermost level for which the test holds; -1. */
    static int find(List<String> e, boolean last, IntPredicate test) {
        int depth = 0;
        int found = -1;
        for (int i = 0; i < e.size(); i++) {
            if (e.get(i).equals(")")) {
                depth--;
            }
            if (depth == 0 && test.test(i)) {
                if (!last) {
                    return i;
                }
                found = i;
            }
            if (e.get(i).equals("(")) {
                depth++;
            }
        }
        return found;
    }

    static int value(List<String> e, int[] names) {
        int i = find(e, true, j -> e.get(j).equals("or"));
        if (i >= 0) {
            return value(e.subList(0, i), names) != 0 | value(e.subList(i + 1, e.size()), names) != 0 ? 1 : 0;
        }
        i = find(e, true, j -> e.get(j).equals("and"));
        if (i >= 0) {
            return value(e.subList(0, i), names) != 0 & value(e.subList(i + 1, e.size()), names) != 0 ? 1 : 0;
        }
        if (e.get(0).equals("not")) {
            return value(e.subList(1, e.size()), names) == 0 ? 1 : 0;
        }
        i = find(e, false, j -> e.get(j).equals("<") || e.get(j).equals("="));
        if (i >= 0) {
            int a = value(e.subList(0, i), names);
            int b = value(e.subList(i + 1, e.size()), names);
            return e.get(i).equals("<") ? (a < b ? 1 : 0) : (a == b ? 1 : 0);
        }
        i = find(e, true, j -> (e.get(j).equals("+") || e.get(j).equals("-")) && j > 0
                && (isOperand(e.get(j - 1)) || e.get(j - 1).equals(")")));
        if (i >= 0) {
            int a = value(e.subList(0, i), names);
            int b = value(e.subList(i + 1, e.size()), names);
            return e.get(i).equals("+") ? a + b : a - b;
        }
        i = find(e, true, j -> e.get(j).equals("*"));
        if (i >= 0) {
            return value(e.subList(0, i), names) * value(e.subList(i + 1, e.size()), names);
        }
        if (e.get(0).equals("-")) {
            return -value(e.subList(1, e.size()), names);
        }
        if (e.get(0).equals("(")) {
            return value(e.subList(1, e.size() - 1), names);
        }
        int name = NAMES.indexOf(e.get(0));
        return name >= 0 ? names[name] : Integer.parseInt(e.get(0));
    }

    /** Part 0 prices, 1 joys, 2 pays of a figure in an hour. */
    int tell(State s, int part, int f, int h, int wished) {
        List<String> t = tokens(texts.get(s.rule), new ArrayList<>());
        int from = 0;
        for (int p = 0; p < part; p++) {
            from += t.subList(from, t.size()).indexOf(";") + 1;
        }
        int to = from + t.subList(from, t.size()).indexOf(";");
        int asked = 0;
        int come = 0;
        for (int[] c : s.clients) {
            asked += c[1] >> f & 1;
            come += c[0] == h ? 1 : 0;
        }
        Fig g = s.figs.get(f);
        int v = value(t.subList(from + 1, to), new int[] {h, g.number, g.means, wished, asked, come});
        return Math.max(part == 1 ? -99 : 0, Math.min(99, v));
    }

    // ---- figures

    int costs(State s, int f, int h) {
        int w = tell(s, 0, f, h, 0) * s.rate;
        Fig g = s.figs.get(f);
        int[] all = {w, 2 * w, w / 2, 2 * w + g.number, 0, Math.min(w, 5)};
        return Math.min(999, all[g.kind]);
    }

    boolean appears(State s, int f, int h) {
        Fig g = s.figs.get(f);
        boolean lady = 2 <= h && h <= 5;
        boolean[] all = {true, lady, true, lady || h == g.number, h % 3 == g.number % 3, h % 2 == 0};
        return (g.up & 1 << h) != 0 && all[g.kind];
    }

    int glad(State s, int c, int f) {
        int[] client = s.clients.get(c);
        int v = (client[1] & 1 << f) != 0 ? tell(s, 1, f, client[0], 1) : 0;
        int[] all = {v, v + 2, v / 2, 2 * (v + 2), v / 2 - 9, 1};
        return all[s.figs.get(f).kind];
    }

    int pays(State s, int c, int f) {
        int[] client = s.clients.get(c);
        return tell(s, 2, f, client[0], client[1] >> f & 1);
    }

    // ---- showings

    Outcome outcome(State s, int[] shown) {
        Outcome o = new Outcome();
        o.left = s.figs.stream().mapToInt(f -> f.means).toArray();
        for (int c = 0; c < shown.length; c++) {
            int f = shown[c];
            if (f == -1) {
                continue;
            }
            int h = s.clients.get(c)[0];
            if (!appears(s, f, h) || o.left[f] < costs(s, f, h)) {
                o.stop = c;
                return o;
            }
            o.left[f] -= costs(s, f, h);
            o.joy += glad(s, c, f);
            o.income += costs(s, f, h) + pays(s, c, f);
        }
        return o;
    }

    /** Tries every showing in order, with all that depends on no showing looked up ahead. */
    int[] best(State s, boolean byIncome) {
        int n = s.clients.size();
        int m = s.figs.size();
        int[][] cost = new int[n][m];
        int[][] gain = new int[n][m];
        for (int c = 0; c < n; c++) {
            for (int f = 0; f < m; f++) {
                int h = s.clients.get(c)[0];
                cost[c][f] = appears(s, f, h) ? costs(s, f, h) : 100000;
                gain[c][f] = byIncome ? costs(s, f, h) + pays(s, c, f) : glad(s, c, f);
            }
        }
        int[] best = null;
        int most = 0;
        int all = (int) Math.round(Math.pow(m + 1, n));
        for (int i = 0; i < all; i++) {
            int[] shown = new int[n];
            int rest = i;
            for (int c = n - 1; c >= 0; c--) {
                shown[c] = rest % (m + 1) - 1;
                rest /= m + 1;
            }
            int[] left = s.figs.stream().mapToInt(f -> f.means).toArray();
            int sum = 0;
            boolean can = true;
            for (int c = 0; c < n; c++) {
                if (shown[c] >= 0) {
                    left[shown[c]] -= cost[c][shown[c]];
                    can &= left[shown[c]] >= 0;
                    sum += gain[c][shown[c]];
                }
            }
            if (can && (best == null || sum > most)) {
                best = shown;
                most = sum;
            }
        }
        return best;
    }

    int[] plain(State s) {
        int[] shown = new int[0];
        for (int c = 0; c < s.clients.size(); c++) {
            shown = Arrays.copyOf(shown, c + 1);
            shown[c] = -1;
            for (int f = 0; f < s.figs.size(); f++) {
                if ((s.clients.get(c)[1] & 1 << f) != 0) {
                    shown[c] = f;
                    if (outcome(s, shown).stop == -1) {
                        break;
                    }
                    shown[c] = -1;
                }
            }
        }
        return shown;
    }

    int joy(State s) {
        return outcome(s, best(s, false)).joy;
    }

    int rich(State s) {
        return outcome(s, best(s, true)).income;
    }

    int drawnJoy(int seed) {
        State s = st.copy();
        int z = seed;
        for (Fig f : s.figs) {
            z = z * 1103515245 + 12345;
            f.means = (z >>> 9) % 100;
        }
        return outcome(s, plain(s)).joy;
    }

    // ---- the face

    boolean isFig(int f) {
        return 0 <= f && f < st.figs.size();
    }

    boolean isClient(int c) {
        return 0 <= c && c < st.clients.size();
    }

    boolean isSheet(int s) {
        return 0 <= s && s < 4;
    }

    int set(int what, int of, int v) {
        int was = what == 6 ? -2 : what < 0 || what > 5 ? -2 : told(of, what);
        if (was == -2) {
            return -2;
        }
        int[] least = {1, 0, 0, 0, 0, 0};
        int[] most = {9, 9, 999, 4095, 11, 63};
        if (v < least[what] || v > most[what]) {
            return -2;
        }
        switch (what) {
            case 0 -> st.rate = v;
            case 1 -> st.figs.get(of).number = v;
            case 2 -> st.figs.get(of).means = v;
            case 3 -> st.figs.get(of).up = v;
            default -> st.clients.get(of)[what - 4] = v;
        }
        return was;
    }

    int figure(int kind, int number, int means) {
        if (kind < 0 || kind > 5 || number < 0 || number > 9 || means < 0 || means > 999) {
            return -2;
        }
        if (st.figs.size() == 6) {
            return -4;
        }
        Fig f = new Fig();
        f.kind = kind;
        f.number = number;
        f.means = means;
        st.figs.add(f);
        return st.figs.size() - 1;
    }

    int client(int hour, int wishes) {
        if (hour < 0 || hour > 11 || wishes < 0 || wishes > 63) {
            return -2;
        }
        if (st.clients.size() == 5) {
            return -4;
        }
        st.clients.add(new int[] {hour, wishes});
        return st.clients.size() - 1;
    }

    int told(int of, int what) {
        if (what == 0) {
            return st.rate;
        }
        if (what == 4 || what == 5) {
            return isClient(of) ? st.clients.get(of)[what - 4] : -2;
        }
        if (!isFig(of)) {
            return -2;
        }
        Fig f = st.figs.get(of);
        if (what == 7) {
            return (int) st.clients.stream().filter(c -> (c[1] & 1 << of) != 0).count();
        }
        if (what >= 10 && what <= 21) {
            return costs(st, of, what - 10);
        }
        if (what >= 30 && what <= 41) {
            return appears(st, of, what - 30) ? 1 : 0;
        }
        return switch (what) {
            case 1 -> f.number;
            case 2 -> f.means;
            case 3 -> f.up;
            case 6 -> f.kind;
            default -> -2;
        };
    }

    int glad(int client, int figure, int what) {
        if (!isClient(client) || !isFig(figure) || what < 0 || what > 1) {
            return -1000;
        }
        return what == 0 ? glad(st, client, figure) : pays(st, client, figure);
    }

    int feed(int letter) {
        if (letter < 0 || letter > 255) {
            return -2;
        }
        if (tape.length() == 160) {
            return -4;
        }
        return tape.append((char) letter).length();
    }

    int text() {
        if (texts.size() == 6) {
            return -4;
        }
        String t = tape.toString();
        tape.setLength(0);
        int fault = fault(t);
        if (fault >= 0) {
            return -100 - fault;
        }
        texts.add(t);
        return texts.size() - 1;
    }

    int force(int text) {
        if (text < 0 || text >= texts.size()) {
            return -2;
        }
        int was = st.rule;
        st.rule = text;
        return was;
    }

    boolean isShowing(int sheet) {
        if (sheets[sheet].length != st.clients.size()) {
            return false;
        }
        return Arrays.stream(sheets[sheet]).allMatch(f -> f == -1 || isFig(f));
    }

    int show(int sheet, int what) {
        boolean known = what >= 0 && what <= 2 || what >= 10 && isFig(what - 10);
        if (!isSheet(sheet) || !known || sheets[sheet] == null || !isShowing(sheet)) {
            return -100000;
        }
        Outcome o = outcome(st, sheets[sheet]);
        return what == 0 ? o.stop : what == 1 ? o.joy : what == 2 ? o.income : o.left[what - 10];
    }

    int take(int sheet) {
        if (!isSheet(sheet)) {
            return -2;
        }
        if (sheets[sheet] == null) {
            return -11;
        }
        if (!isShowing(sheet)) {
            return -2;
        }
        Outcome o = outcome(st, sheets[sheet]);
        if (o.stop != -1) {
            return -3;
        }
        for (int f = 0; f < st.figs.size(); f++) {
            st.figs.get(f).means = o.left[f];
        }
        return o.income;
    }

    int showing(int how, int what) {
        if (how < 0 || how > 2 || what < 0 || what > 2) {
            return -100000;
        }
        int[] shown = how == 2 ? plain(st) : best(st, how == 1);
        Outcome o = outcome(st, shown);
        int digits = 0;
        for (int f : shown) {
            digits = digits * 10 + f + 1;
        }
        return what == 0 ? digits : what == 1 ? o.joy : o.income;
    }

    int few(int what) {
        if (what < 0 || what > 1) {
            return -2;
        }
        int now = joy(st);
        for (int many = 0; many <= 6; many++) {
            for (int bits = 0; bits < 1 << st.figs.size(); bits++) {
                if (Integer.bitCount(bits) == many) {
                    State s = st.copy();
                    for (int f = 0; f < s.figs.size(); f++) {
                        if ((bits & 1 << f) == 0) {
                            s.figs.get(f).up = 0;
                        }
                    }
                    if (joy(s) == now) {
                        return what == 0 ? bits : many;
                    }
                }
            }
        }
        throw new IllegalStateException();
    }

    int missed(int what) {
        if (what < 0 || what > 1) {
            return -100000;
        }
        int who = -1;
        int least = st.figs.isEmpty() ? joy(st) : Integer.MAX_VALUE;
        for (int f = 0; f < st.figs.size(); f++) {
            State s = st.copy();
            s.figs.get(f).up = 0;
            if (joy(s) < least) {
                least = joy(s);
                who = f;
            }
        }
        return what == 0 ? who : least;
    }

    int change(int what) {
        if (what < 0 || what > 1) {
            return -100000;
        }
        int who = -1;
        int most = joy(st);
        for (int pair = 0; pair < 50; pair++) {
            int a = pair / 10;
            int b = pair % 10;
            if (a < b && isClient(b)) {
                State s = st.copy();
                s.clients.get(a)[0] = st.clients.get(b)[0];
                s.clients.get(b)[0] = st.clients.get(a)[0];
                if (joy(s) > most) {
                    most = joy(s);
                    who = pair;
                }
            }
        }
        return what == 0 ? who : most;
    }

    int raise(int k, int what) {
        if (k < 0 || k > 999 || what < 0 || what > 1) {
            return -100000;
        }
        int who = -1;
        int most = joy(st);
        for (int f = 0; f < st.figs.size(); f++) {
            State s = st.copy();
            s.figs.get(f).means = Math.min(999, s.figs.get(f).means + k);
            if (joy(s) > most) {
                most = joy(s);
                who = f;
            }
        }
        return what == 0 ? who : most;
    }

    int dear(int what) {
        if (what < 0 || what > 1) {
            return -100000;
        }
        int rate = 0;
        int most = -1;
        for (int r = 1; r <= 9; r++) {
            State s = st.copy();
            s.rate = r;
            int rich = rich(s);
            if (rich > most) {
                most = rich;
                rate = r;
            }
        }
        return what == 0 ? rate : most;
    }

    int otherwise(State s, int sheet, int figure) {
        for (int h = 0; h < sheets[sheet].length; h++) {
            if (sheets[sheet][h] != costs(s, figure, h)) {
                return h;
            }
        }
        return -1;
    }

    int tells(int sheet, int figure, int what) {
        if (!isSheet(sheet) || !isFig(figure) || what < 0 || what > 6) {
            return -2;
        }
        if (sheets[sheet] == null) {
            return -11;
        }
        if (sheets[sheet].length > 12) {
            return -2;
        }
        if (what == 0) {
            return otherwise(st, sheet, figure);
        }
        int bits = 0;
        int many = 0;
        int least = -1;
        int[] from = {0, 0, 0, 1, 0, 0, 0};
        int[] to = {0, 6, 10, 10, texts.size(), 1000, 1000};
        for (int v = from[what]; v < to[what]; v++) {
            State s = st.copy();
            switch (what) {
                case 1 -> s.figs.get(figure).kind = v;
                case 2 -> s.figs.get(figure).number = v;
                case 3 -> s.rate = v;
                case 4 -> s.rule = v;
                default -> s.figs.get(figure).means = v;
            }
            if (otherwise(s, sheet, figure) == -1) {
                bits |= what < 5 ? 1 << v : 0;
                many++;
                least = least == -1 ? v : least;
            }
        }
        return what < 5 ? bits : what == 5 ? many : least;
    }

    int film(int sheet, int figure, int n) {
        if (!isSheet(sheet) || !isFig(figure) || n < 0 || n > 12) {
            return -2;
        }
        sorts[sheet] = 1;
        sheets[sheet] = new int[n];
        for (int h = 0; h < n; h++) {
            sheets[sheet][h] = costs(st, figure, h);
        }
        return n;
    }

    int drawn(int seed) {
        return drawnJoy(seed);
    }

    long chance(int seed, int n, int k, int part) {
        if (n < 1 || n > 20 || k < 0 || k > 999 || part < 0 || part > 1) {
            return -4611686018427387904L;
        }
        int times = 0;
        for (int i = 0; i < n; i++) {
            times += drawnJoy(seed + i) >= k ? 1 : 0;
        }
        int a = times;
        int b = n;
        while (a != 0) {
            int r = b % a;
            b = a;
            a = r;
        }
        return part == 0 ? times / b : n / b;
    }

    int image() {
        image = st.copy();
        return st.figs.size();
    }

    int back() {
        if (image == null) {
            return -3;
        }
        st = image.copy();
        return st.figs.size();
    }

    int count(int what) {
        return switch (what) {
            case 0 -> st.figs.size();
            case 1 -> st.clients.size();
            case 2 -> st.figs.stream().mapToInt(f -> f.means).sum();
            case 3 -> texts.size();
            case 4 -> tape.length();
            case 5 -> st.rule;
            default -> -2;
        };
    }

    int sheet(int sheet, int sort, int n) {
        if (!isSheet(sheet) || sort < -1 || sort > 2) {
            return -2;
        }
        if (sort == -1) {
            sorts[sheet] = -1;
            sheets[sheet] = null;
            return 1;
        }
        if (n > 40) {
            return -2;
        }
        if (n < 0) {
            return -14;
        }
        sorts[sheet] = sort;
        sheets[sheet] = new int[n];
        return 1;
    }

    int cell(int sheet, int i, int v) {
        if (!isSheet(sheet)) {
            return -2;
        }
        if (sheets[sheet] == null) {
            return -11;
        }
        if (i < 0 || i >= sheets[sheet].length) {
            return -12;
        }
        sheets[sheet][i] = sorts[sheet] == 0 ? (byte) v : sorts[sheet] == 1 ? (short) v : v;
        return 1;
    }

    int copy(int sheet, int i, int other, int j, int n) {
        if (!isSheet(sheet) || !isSheet(other)) {
            return -2;
        }
        if (sheets[sheet] == null || sheets[other] == null) {
            return -11;
        }
        if (sorts[sheet] != sorts[other]) {
            return -13;
        }
        if (i < 0 || j < 0 || n < 0 || (long) i + n > sheets[sheet].length || (long) j + n > sheets[other].length) {
            return -12;
        }
        int[] were = sheets[sheet].clone();
        for (int m = 0; m < n; m++) {
            sheets[other][j + m] = were[i + m];
        }
        return n;
    }

    int figures(int sheet, int sort, int from, int n) {
        if (!isSheet(sheet) || sort < 0 || sort > 2 || n < 0 || n > 6) {
            return -2;
        }
        if (sheets[sheet] != null && sorts[sheet] != sort) {
            return -13;
        }
        if (sheets[sheet] == null) {
            return -11;
        }
        int came = 0;
        for (long t = 0; t < n; t++) {
            long at = from + 3 * t;
            if (at < 0 || at + 2 >= sheets[sheet].length) {
                return -12;
            }
            int[] row = sheets[sheet];
            came += figure(row[(int) at], row[(int) at + 1], row[(int) at + 2]) >= 0 ? 1 : 0;
        }
        return came;
    }

    int taken(int figure, int k) {
        if (k < 0 || k > 5) {
            return -2;
        }
        if (!isFig(figure)) {
            return -11;
        }
        String[] above = {"0", "01", "02", "013", "024", "05"};
        return above[st.figs.get(figure).kind].indexOf('0' + k) >= 0 ? st.figs.get(figure).number : -13;
    }
}
