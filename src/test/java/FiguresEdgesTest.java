/** Boundary cases of promises 1 to 6, sentence by sentence; each test stands below the words that it holds to. */
final class FiguresEdgesTest {
    private static final Due due = new Due("FiguresEdgesTest");
    private static final int NONE = Edges.NONE, BAD = Edges.BAD, FULL = Edges.FULL, STATE = Edges.STATE;
    private static final int NO_GLADNESS = Edges.NO_GLADNESS, MAX = Edges.MAX, MIN = Edges.MIN;
    private static final int[] FAR = {-1, MIN, MAX};
    /** What set() may set: the least and the most of each. */
    private static final int[] LEAST = {1, 0, 0, 0, 0, 0}, MOST = {9, 9, 999, 4095, 11, 63};

    public static void main(String[] args) {
        promise1NothingYet();
        promise1TheFirstRule();
        promise1NothingShared();
        promise2TheLastTaken();
        promise2TheFirstNotTaken();
        promise2WhatOutside();
        promise2OfOutside();
        promise2NothingThereYet();
        promise2FiguresAndClientsAreCountedApart();
        promise3TheLastTaken();
        promise3TheFirstNotTaken();
        promise3SixAtMost();
        promise3UpInAllHours();
        promise4TheLastTaken();
        promise4TheFirstNotTaken();
        promise4FiveAtMost();
        promise5Whats();
        promise5Of();
        promise5NothingThereYet();
        promise5Asked();
        promise5CostsAtTheBounds();
        promise5PricesAtTheBounds();
        promise5CostsAreCut();
        promise5NamesOfAFigureInAnHour();
        promise5AppearsAtTheFirstAndLastHours();
        promise5AppearsByNumber();
        promise5NotUp();
        promise6Refused();
        promise6NothingThereYet();
        promise6JoysAtTheBounds();
        promise6PaysAtTheBounds();
        promise6CutTowardZero();
        promise6WhoDoesNotAppear();
        promise6NamesOfAClient();
        due.end();
    }

    // ---- promise 1

    /** "No FIGURES, no CLIENTS."; Terms: RATE 1 at first, SHEETS missing as all are at first. */
    private static void promise1NothingYet() {
        CrystalByTheMinute x = new CrystalByTheMinute();
        int[] counts = {0, 0, 0, 1, 0, 0};
        for (int what = 0; what < 6; what++) {
            due.is("promise 1: count(" + what + ")", x.count(what), counts[what]);
        }
        due.is("promise 1: the RATE", x.told(0, 0), 1);
        due.is("promise 1: no FIGURE", x.told(0, 6), BAD);
        due.is("promise 1: no CLIENT", x.told(0, 4), BAD);
        due.is("promise 1: no IMAGE", x.back(), STATE);
        for (int s = 0; s < 4; s++) {
            due.is("promise 1: SHEET " + s + " is missing", x.figures(s, 0, 0, 1), Edges.NOTHING);
        }
        for (int how = 0; how < 3; how++) {
            for (int what = 0; what < 3; what++) {
                due.is("promise 1: showing(" + how + ", " + what + ")", x.showing(how, what), 0);
            }
        }
    }

    /** Terms: "TEXT 0, at first THE RULE, is: prices 5 ; joys 10 ; pays wished * 8 ;" */
    private static void promise1TheFirstRule() {
        CrystalByTheMinute x = new CrystalByTheMinute();
        x.figure(0, 0, 0);
        x.figure(0, 0, 0);
        x.client(0, 1);
        due.is("promise 1: prices", x.told(0, 10), 5);
        due.is("promise 1: joys", x.glad(0, 0, 0), 10);
        due.is("promise 1: pays, WISHED for", x.glad(0, 0, 1), 8);
        due.is("promise 1: pays, not WISHED for", x.glad(0, 1, 1), 0);
    }

    /** A new object is new, whatever another one holds. */
    private static void promise1NothingShared() {
        String fresh = Edges.everything(Edges.empty());
        CrystalByTheMinute other = Edges.small();
        CrystalByTheMinute x = Edges.empty();
        other.set(0, 0, 9);
        due.same("promise 1: new beside another", Edges.everything(x), fresh);
        due.is("promise 1: the other one goes on", other.count(0), 2);
    }

    // ---- promise 2

    /** "RATE .., NUMBER .., MEANS .., when it is UP .., the HOUR .., WISHES .. becomes v: what it was." */
    private static void promise2TheLastTaken() {
        for (int what = 0; what < 6; what++) {
            CrystalByTheMinute x = Edges.small();
            String call = "promise 2: set(" + what + ", 1, v)";
            int was = x.told(1, what);
            due.is(call + " of the least", x.set(what, 1, LEAST[what]), was);
            due.is(call + " of the least again", x.set(what, 1, LEAST[what]), LEAST[what]);
            due.is(call + ": told", x.told(1, what), LEAST[what]);
            due.is(call + " of the most", x.set(what, 1, MOST[what]), LEAST[what]);
            due.is(call + ": told", x.told(1, what), MOST[what]);
            x.set(what, 1, was);
            due.same(call + ": nothing else", Edges.everything(x), Edges.everything(Edges.small()));
        }
    }

    /** "BAD.": v is not as told. */
    private static void promise2TheFirstNotTaken() {
        for (int what = 0; what < 6; what++) {
            int w = what;
            for (int v : new int[] {LEAST[what] - 1, MOST[what] + 1, -MOST[what], MIN, MAX}) {
                Edges.leaves(due, "promise 2: set(" + w + ", 1, " + v + ")", Edges::small, x -> x.set(w, 1, v), BAD);
            }
        }
    }

    /** "BAD.": no such what. 6 and 7 are told()'s alone. */
    private static void promise2WhatOutside() {
        for (int what : new int[] {-1, 6, 7, 10, 30, MIN, MAX}) {
            Edges.leaves(due, "promise 2: set(" + what + ", 0, 1)", Edges::small, x -> x.set(what, 0, 1), BAD);
        }
    }

    /** "RATE (what 0; of does not matter)"; "BAD.": no such FIGURE, no such CLIENT. */
    private static void promise2OfOutside() {
        for (int of : new int[] {-1, 0, 1, 2, 5, 6, MIN, MAX}) {
            CrystalByTheMinute x = Edges.small();
            due.is("promise 2: set(0, " + of + ", 9)", x.set(0, of, 9), 3);
            due.is("promise 2: the RATE", x.told(of, 0), 9);
            // v alone decides of the RATE: whatever `of` is, a v that is none stays BAD
            due.is("promise 2: set(0, " + of + ", 10)", x.set(0, of, 10), BAD);
            due.is("promise 2: set(0, " + of + ", 0)", x.set(0, of, 0), BAD);
            due.is("promise 2: the RATE", x.told(of, 0), 9);
        }
        for (int what = 1; what < 6; what++) {
            int w = what;
            for (int of : new int[] {-1, 2, 5, 6, MIN, MAX}) {
                Edges.leaves(due, "promise 2: set(" + w + ", " + of + ", 1)", Edges::small, x -> x.set(w, of, 1), BAD);
            }
        }
    }

    private static void promise2NothingThereYet() {
        for (int what = 1; what < 6; what++) {
            int w = what;
            Edges.leaves(due, "promise 2: set(" + w + ", 0, 1) of none", Edges::empty, x -> x.set(w, 0, 1), BAD);
        }
        due.is("promise 2: set(0, 0, 2) of none: the RATE is there", Edges.empty().set(0, 0, 2), 1);
    }

    /** "of a FIGURE; .. of a CLIENT": what tells of which of both `of` is a number. */
    private static void promise2FiguresAndClientsAreCountedApart() {
        CrystalByTheMinute x = new CrystalByTheMinute();
        x.figure(0, 0, 0);
        x.figure(0, 0, 0);
        x.client(0, 0);
        for (int what = 1; what < 6; what++) {
            due.is("promise 2: set(" + what + ", 1, 1), FIGURE 1, no CLIENT 1", x.set(what, 1, 1), what == 3 ? 4095 : what < 4 ? 0 : BAD);
        }
        CrystalByTheMinute y = new CrystalByTheMinute();
        y.figure(0, 0, 0);
        y.client(0, 0);
        y.client(0, 0);
        for (int what = 1; what < 6; what++) {
            due.is("promise 2: set(" + what + ", 1, 1), CLIENT 1, no FIGURE 1", y.set(what, 1, 1), what < 4 ? BAD : 0);
        }
    }

    // ---- promise 3

    /** "A FIGURE: its number."; Terms: KIND 0 .. 5, NUMBER 0 .. 9, MEANS 0 .. 999. */
    private static void promise3TheLastTaken() {
        int[][] taken = {{0, 0, 0}, {5, 0, 0}, {0, 9, 0}, {0, 0, 999}, {5, 9, 999}, {4, 8, 998}};
        CrystalByTheMinute x = new CrystalByTheMinute();
        for (int f = 0; f < taken.length; f++) {
            int[] t = taken[f];
            due.is("promise 3: figure() of the bounds", x.figure(t[0], t[1], t[2]), f);
            due.is("promise 3: KIND", x.told(f, 6), t[0]);
            due.is("promise 3: NUMBER", x.told(f, 1), t[1]);
            due.is("promise 3: MEANS", x.told(f, 2), t[2]);
            due.is("promise 3: how many", x.count(0), f + 1);
        }
    }

    /** "BAD" */
    private static void promise3TheFirstNotTaken() {
        int[][] refused = {{-1, 0, 0}, {6, 0, 0}, {0, -1, 0}, {0, 10, 0}, {0, 0, -1}, {0, 0, 1000},
            {MIN, 0, 0}, {MAX, 0, 0}, {0, MIN, 0}, {0, MAX, 0}, {0, 0, MIN}, {0, 0, MAX}, {6, 10, 1000}};
        for (int[] r : refused) {
            String call = "promise 3: figure(" + r[0] + ", " + r[1] + ", " + r[2] + ")";
            Edges.leaves(due, call, Edges::small, x -> x.figure(r[0], r[1], r[2]), BAD);
            Edges.leaves(due, call + " as the first", Edges::empty, x -> x.figure(r[0], r[1], r[2]), BAD);
            // "BAD; FULL." decides: the first that the call's words name is BAD, though no place is left either
            Edges.leaves(due, call + " as the seventh", Edges::crowded, x -> x.figure(r[0], r[1], r[2]), BAD);
        }
    }

    /** "FULL."; Terms: "FIGURES (6 at most, numbered from 0)". */
    private static void promise3SixAtMost() {
        CrystalByTheMinute x = new CrystalByTheMinute();
        for (int f = 0; f < 6; f++) {
            due.is("promise 3: figure " + f, x.figure(5 - f, f, f), f);
        }
        due.is("promise 3: the seventh", x.figure(0, 0, 0), FULL);
        Edges.leaves(due, "promise 3: the seventh", Edges::crowded, y -> y.figure(0, 0, 0), FULL);
        Edges.leaves(due, "promise 3: the seventh", Edges::crowded, y -> y.figure(5, 9, 999), FULL);
        // full of CLIENTS is not full of FIGURES
        CrystalByTheMinute z = new CrystalByTheMinute();
        for (int c = 0; c < 5; c++) {
            z.client(0, 0);
        }
        due.is("promise 3: beside five CLIENTS", z.figure(0, 0, 0), 0);
    }

    /** Terms: "are UP in some HOURS (bits 0 .. 11; all, 4095, as one comes)": also where one stood before who was not. */
    private static void promise3UpInAllHours() {
        CrystalByTheMinute x = new CrystalByTheMinute();
        x.image();
        due.is("promise 3: figure()", x.figure(0, 0, 0), 0);
        due.is("promise 3: as one comes", x.told(0, 3), 4095);
        x.set(3, 0, 0);
        x.back();
        due.is("promise 3: figure() again", x.figure(0, 0, 0), 0);
        due.is("promise 3: as one comes", x.told(0, 3), 4095);
    }

    // ---- promise 4

    /** "A CLIENT: the number."; Terms: HOURS 0 .. 11, WISHES bits 0 .. 5 (of FIGURES that are not here, too). */
    private static void promise4TheLastTaken() {
        int[][] taken = {{0, 0}, {11, 0}, {0, 63}, {11, 63}, {1, 32}};
        CrystalByTheMinute x = new CrystalByTheMinute();
        for (int c = 0; c < taken.length; c++) {
            due.is("promise 4: client() of the bounds", x.client(taken[c][0], taken[c][1]), c);
            due.is("promise 4: HOUR", x.told(c, 4), taken[c][0]);
            due.is("promise 4: WISHES", x.told(c, 5), taken[c][1]);
            due.is("promise 4: how many", x.count(1), c + 1);
        }
    }

    /** "BAD" */
    private static void promise4TheFirstNotTaken() {
        int[][] refused = {{-1, 0}, {12, 0}, {0, -1}, {0, 64}, {MIN, 0}, {MAX, 0}, {0, MIN}, {0, MAX}, {12, 64}};
        for (int[] r : refused) {
            String call = "promise 4: client(" + r[0] + ", " + r[1] + ")";
            Edges.leaves(due, call, Edges::small, x -> x.client(r[0], r[1]), BAD);
            Edges.leaves(due, call + " as the first", Edges::empty, x -> x.client(r[0], r[1]), BAD);
            // "BAD; FULL." decides, as in promise 3
            Edges.leaves(due, call + " as the sixth", Edges::crowded, x -> x.client(r[0], r[1]), BAD);
        }
    }

    /** "FULL."; Terms: "CLIENTS (5 at most, numbered from 0)". */
    private static void promise4FiveAtMost() {
        CrystalByTheMinute x = new CrystalByTheMinute();
        for (int c = 0; c < 5; c++) {
            due.is("promise 4: client " + c, x.client(c, c), c);
        }
        due.is("promise 4: the sixth", x.client(0, 0), FULL);
        Edges.leaves(due, "promise 4: the sixth", Edges::crowded, y -> y.client(0, 0), FULL);
        Edges.leaves(due, "promise 4: the sixth", Edges::crowded, y -> y.client(11, 63), FULL);
        // full of FIGURES is not full of CLIENTS
        CrystalByTheMinute z = new CrystalByTheMinute();
        for (int f = 0; f < 6; f++) {
            z.figure(0, 0, 0);
        }
        due.is("promise 4: beside six FIGURES", z.client(0, 0), 0);
    }

    // ---- promise 5

    /** "What 0 .. 5 as of set(), 6 .., 7 ..; 10 .. 21 .., 30 .. 41 ... BAD.": the gaps between, and both ends. */
    private static void promise5Whats() {
        for (int what = -2; what < 45; what++) {
            boolean isOne = what >= 0 && what <= 7 || what >= 10 && what <= 21 || what >= 30 && what <= 41;
            int w = what;
            if (isOne) {
                CrystalByTheMinute x = Edges.small();
                due.is("promise 5: told(0, " + what + ") is told", x.told(0, what) >= 0 ? 1 : 0, 1);
            } else {
                Edges.leaves(due, "promise 5: told(0, " + what + ")", Edges::small, x -> x.told(0, w), BAD);
            }
        }
        Edges.leaves(due, "promise 5: told(0, MIN)", Edges::small, x -> x.told(0, MIN), BAD);
        Edges.leaves(due, "promise 5: told(0, MAX)", Edges::small, x -> x.told(0, MAX), BAD);
        int[] wants = {3, 4, 11, 4094, 5, 3, 0, 1};
        for (int what = 0; what < 8; what++) {
            int w = what;
            Edges.leaves(due, "promise 5: told(0, " + w + ")", Edges::small, x -> x.told(0, w), wants[w]);
        }
        Edges.leaves(due, "promise 5: told(0, 10)", Edges::small, x -> x.told(0, 10), 33);
        Edges.leaves(due, "promise 5: told(0, 21)", Edges::small, x -> x.told(0, 21), 33);
        Edges.leaves(due, "promise 5: told(0, 30)", Edges::small, x -> x.told(0, 30), 0);
        Edges.leaves(due, "promise 5: told(0, 41)", Edges::small, x -> x.told(0, 41), 1);
    }

    /** "as of set()": of does not matter for the RATE; else no such FIGURE, no such CLIENT. */
    private static void promise5Of() {
        CrystalByTheMinute x = new CrystalByTheMinute();
        x.set(0, 0, 7);
        x.figure(0, 0, 0);
        x.figure(0, 0, 0);
        x.client(0, 0);
        for (int of : new int[] {-1, 2, 5, 6, MIN, MAX}) {
            due.is("promise 5: told(" + of + ", 0)", x.told(of, 0), 7);
            for (int what : new int[] {1, 2, 3, 4, 5, 6, 7, 10, 21, 30, 41}) {
                due.is("promise 5: told(" + of + ", " + what + ")", x.told(of, what), BAD);
            }
        }
        for (int what : new int[] {1, 2, 3, 6, 7, 10, 21, 30, 41}) {
            due.is("promise 5: told(1, " + what + "): a FIGURE", x.told(1, what) >= 0 ? 1 : 0, 1);
        }
        due.is("promise 5: told(1, 4): no CLIENT, though a FIGURE", x.told(1, 4), BAD);
        due.is("promise 5: told(1, 5): no CLIENT, though a FIGURE", x.told(1, 5), BAD);
        CrystalByTheMinute y = new CrystalByTheMinute();
        y.client(3, 9);
        for (int what : new int[] {1, 2, 3, 6, 7, 10, 21, 30, 41}) {
            due.is("promise 5: told(0, " + what + "): no FIGURE, though a CLIENT", y.told(0, what), BAD);
        }
        due.is("promise 5: told(0, 4)", y.told(0, 4), 3);
        due.is("promise 5: told(0, 5)", y.told(0, 5), 9);
    }

    private static void promise5NothingThereYet() {
        CrystalByTheMinute x = new CrystalByTheMinute();
        for (int what = 1; what < 42; what++) {
            due.is("promise 5: told(0, " + what + ") of none", x.told(0, what), BAD);
        }
        for (int of : FAR) {
            due.is("promise 5: told(" + of + ", 0) of none", x.told(of, 0), 1);
        }
    }

    /** "7 how many CLIENTS WISH for it": none, all five; the first and the last bit. */
    private static void promise5Asked() {
        CrystalByTheMinute x = Edges.crowded();
        for (int c = 0; c < 5; c++) {
            x.set(5, c, 0);
        }
        for (int f = 0; f < 6; f++) {
            due.is("promise 5: told(" + f + ", 7) of none", x.told(f, 7), 0);
        }
        for (int c = 0; c < 5; c++) {
            x.set(5, c, 33);
            due.is("promise 5: told(0, 7)", x.told(0, 7), c + 1);
            due.is("promise 5: told(5, 7)", x.told(5, 7), c + 1);
            due.is("promise 5: told(1, 7)", x.told(1, 7), 0);
            due.is("promise 5: told(4, 7)", x.told(4, 7), 0);
        }
    }

    private static void costs(int kind, int number, int price, int rate, int want) {
        CrystalByTheMinute x = new CrystalByTheMinute();
        x.figure(kind, number, 0);
        x.set(0, 0, rate);
        x.force(Due.text(x, "prices " + price + ";joys 0;pays 0;"));
        String call = "promise 5: COSTS of KIND " + kind + " NUMBER " + number + " by " + price + " times " + rate;
        due.is(call + ", HOUR 0", x.told(0, 10), want);
        due.is(call + ", HOUR 11", x.told(0, 21), want);
    }

    /** "(COSTS 0 .. 999, else the bound.)", "LAMP: as a FIGURE, 5 at most", "BURGLAR: 0". */
    private static void promise5CostsAtTheBounds() {
        costs(0, 9, 99, 9, 891);
        costs(1, 9, 83, 6, 996);
        costs(1, 9, 63, 8, 999);
        costs(1, 9, 99, 9, 999);
        costs(3, 2, 83, 6, 998);
        costs(3, 3, 83, 6, 999);
        costs(3, 4, 83, 6, 999);
        costs(3, 9, 83, 6, 999);
        costs(3, 0, 99, 9, 999);
        costs(3, 9, 99, 9, 999);
        costs(5, 9, 4, 1, 4);
        costs(5, 9, 5, 1, 5);
        costs(5, 9, 6, 1, 5);
        costs(5, 9, 2, 2, 4);
        costs(5, 9, 2, 3, 5);
        costs(5, 9, 99, 9, 5);
        costs(4, 9, 99, 9, 0);
        for (int kind = 0; kind < 6; kind++) {
            costs(kind, 0, 0, 9, 0);
            costs(kind, 9, 0, 9, kind == 3 ? 9 : 0);
        }
    }

    /** Terms: "prices (0 .. 99, else the bound)": bound first, then times RATE. */
    private static void promise5PricesAtTheBounds() {
        int[][] prices = {{-1, 0}, {-9999, 0}, {0, 0}, {1, 1}, {98, 98}, {99, 99}, {100, 99}, {9999, 99}};
        for (int[] p : prices) {
            costs(0, 0, p[0], 1, p[1]);
            costs(0, 0, p[0], 9, 9 * p[1]);
            costs(2, 0, p[0], 1, p[1] / 2);
        }
    }

    /** "CLERK: half (cut) of a FIGURE's": of what is already times the RATE. */
    private static void promise5CostsAreCut() {
        costs(2, 0, 1, 1, 0);
        costs(2, 0, 2, 1, 1);
        costs(2, 0, 3, 1, 1);
        costs(2, 0, 1, 2, 1);
        costs(2, 0, 3, 3, 4);
        costs(2, 0, 99, 9, 445);
    }

    private static void priced(CrystalByTheMinute x, String prices) {
        int text = Due.text(x, "prices " + prices + ";joys 0;pays 0;");
        due.is("promise 5: text of " + prices, text > 0 ? 1 : 0, 1);
        x.force(text);
    }

    /** Terms: "Of a FIGURE in an HOUR: hour; number ..; means ..; wished: 0; asked ..; clients ..": least and most of each. */
    private static void promise5NamesOfAFigureInAnHour() {
        CrystalByTheMinute x = new CrystalByTheMinute();
        x.figure(0, 0, 0);
        x.figure(0, 9, 999);
        for (int c = 0; c < 5; c++) {
            x.client(11, 2);
        }
        priced(x, "hour");
        due.is("promise 5: hour 0", x.told(0, 10), 0);
        due.is("promise 5: hour 11", x.told(0, 21), 11);
        priced(x, "number*10+(means=0)+2*(means=999)");
        due.is("promise 5: number 0, means 0", x.told(0, 10), 1);
        due.is("promise 5: number 9, means 999", x.told(1, 10), 92);
        priced(x, "asked*10+clients");
        due.is("promise 5: asked 0, clients 0", x.told(0, 10), 0);
        due.is("promise 5: asked 0, clients 5", x.told(0, 21), 5);
        due.is("promise 5: asked 5, clients 0", x.told(1, 20), 50);
        due.is("promise 5: asked 5, clients 5", x.told(1, 21), 55);
        // "wished: 0" decides of prices, though all CLIENTS who come then WISH for it
        priced(x, "wished*50+7");
        due.is("promise 5: wished 0", x.told(1, 21), 7);
    }

    private static CrystalByTheMinute alone(int kind, int number) {
        CrystalByTheMinute x = new CrystalByTheMinute();
        x.figure(kind, number, 0);
        return x;
    }

    private static void appears(int kind, int number, int bits) {
        CrystalByTheMinute x = alone(kind, number);
        for (int h = 0; h < 12; h++) {
            due.is("promise 5: KIND " + kind + " NUMBER " + number + " in HOUR " + h, x.told(0, 30 + h), bits >> h & 1);
        }
    }

    /** "LADY: if h is 2, 3, 4 or 5", "LAMP: if h is even", "FIGURE: yes", "CLERK: yes": the hours beside them. */
    private static void promise5AppearsAtTheFirstAndLastHours() {
        for (int number = 0; number < 10; number++) {
            appears(0, number, 4095);
            appears(1, number, 0b000000111100);
            appears(2, number, 4095);
            appears(5, number, 0b010101010101);
        }
    }

    /** "STRANGER: as a LADY, or if h is NUMBER; BURGLAR: if h modulo 3 is NUMBER modulo 3". */
    private static void promise5AppearsByNumber() {
        int lady = 0b000000111100;
        int thirds = 0b001001001001;
        for (int number = 0; number < 10; number++) {
            appears(3, number, lady | 1 << number);
            appears(4, number, thirds << number % 3);
        }
    }

    /** "(Not UP: no.)": the first and the last HOUR alone, none at all, all but one. */
    private static void promise5NotUp() {
        int[] would = {4095, 0b000000111100, 4095, 0b000000111100 | 1, 0b001001001001, 0b010101010101};
        for (int kind = 0; kind < 6; kind++) {
            for (int up : new int[] {0, 1, 1 << 11, 4094, 2047, 1 << 2 | 1 << 5}) {
                CrystalByTheMinute x = alone(kind, 0);
                x.set(3, 0, up);
                for (int h = 0; h < 12; h++) {
                    due.is("promise 5: KIND " + kind + " UP " + up + " in HOUR " + h, x.told(0, 30 + h), (would[kind] & up) >> h & 1);
                }
                due.is("promise 5: COSTS do not ask whether it is UP", x.told(0, 10), new int[] {5, 10, 2, 10, 0, 5}[kind]);
            }
        }
    }

    // ---- promise 6

    /** "-1000: no such CLIENT, FIGURE, what." All answer the same, whichever comes first. */
    private static void promise6Refused() {
        for (int bad : new int[] {-1, 2, 5, 6, MIN, MAX}) {
            Edges.leaves(due, "promise 6: glad(" + bad + ", 0, 0)", Edges::small, x -> x.glad(bad, 0, 0), NO_GLADNESS);
            Edges.leaves(due, "promise 6: glad(0, " + bad + ", 0)", Edges::small, x -> x.glad(0, bad, 0), NO_GLADNESS);
            Edges.leaves(due, "promise 6: glad(0, 0, " + bad + ")", Edges::small, x -> x.glad(0, 0, bad), NO_GLADNESS);
            Edges.leaves(due, "promise 6: glad(" + bad + ", 0, 1)", Edges::small, x -> x.glad(bad, 0, 1), NO_GLADNESS);
            Edges.leaves(due, "promise 6: glad(0, " + bad + ", 1)", Edges::small, x -> x.glad(0, bad, 1), NO_GLADNESS);
        }
        CrystalByTheMinute x = Edges.crowded();
        due.is("promise 6: the last of both", x.glad(4, 5, 0), 1);
        due.is("promise 6: no sixth CLIENT, though a sixth FIGURE", x.glad(5, 5, 0), NO_GLADNESS);
        due.is("promise 6: no seventh FIGURE", x.glad(4, 6, 0), NO_GLADNESS);
        Edges.leaves(due, "promise 6: glad(0, 0, 0)", Edges::small, y -> y.glad(0, 0, 0), 4);
        Edges.leaves(due, "promise 6: glad(1, 1, 1)", Edges::small, y -> y.glad(1, 1, 1), 9);
    }

    private static void promise6NothingThereYet() {
        CrystalByTheMinute x = new CrystalByTheMinute();
        due.is("promise 6: no CLIENT, no FIGURE", x.glad(0, 0, 0), NO_GLADNESS);
        x.figure(0, 0, 0);
        due.is("promise 6: no CLIENT", x.glad(0, 0, 0), NO_GLADNESS);
        CrystalByTheMinute y = new CrystalByTheMinute();
        y.client(0, 63);
        due.is("promise 6: no FIGURE, though WISHED for", y.glad(0, 0, 0), NO_GLADNESS);
        due.is("promise 6: no FIGURE, though WISHED for", y.glad(0, 0, 1), NO_GLADNESS);
    }

    /** CLIENT 0 WISHES for all FIGURES, of each KIND one; CLIENT 1 for none. */
    private static CrystalByTheMinute ofAllKinds(String joys, String pays) {
        CrystalByTheMinute x = new CrystalByTheMinute();
        for (int k = 0; k < 6; k++) {
            x.figure(k, 0, 0);
        }
        x.client(0, 63);
        x.client(0, 0);
        due.is("promise 6: text", Due.text(x, "prices 0;joys " + joys + ";pays " + pays + ";"), 1);
        x.force(1);
        return x;
    }

    private static void glad(String joys, int... wants) {
        CrystalByTheMinute x = ofAllKinds(joys, "0");
        int[] other = {0, 2, 0, 4, -9, 1};
        for (int k = 0; k < 6; k++) {
            due.is("promise 6: KIND " + k + " by joys " + joys, x.glad(0, k, 0), wants[k]);
            // "v, if so, else 0" decides: what joys would tell of who isn't WISHED for does not matter
            due.is("promise 6: KIND " + k + ", not WISHED for", x.glad(1, k, 0), other[k]);
        }
    }

    /** Terms: "joys (-99 .. 99, else the bound)": GLAD itself goes beyond. */
    private static void promise6JoysAtTheBounds() {
        glad("98", 98, 100, 49, 200, 40, 1);
        glad("99", 99, 101, 49, 202, 40, 1);
        glad("100", 99, 101, 49, 202, 40, 1);
        glad("9999", 99, 101, 49, 202, 40, 1);
        glad("0", 0, 2, 0, 4, -9, 1);
        glad("-98", -98, -96, -49, -192, -58, 1);
        glad("-99", -99, -97, -49, -194, -58, 1);
        glad("-100", -99, -97, -49, -194, -58, 1);
        glad("-9999", -99, -97, -49, -194, -58, 1);
    }

    /** Terms: "pays (0 .. 99, else the bound)": of whatever KIND, WISHED for or not. */
    private static void promise6PaysAtTheBounds() {
        int[][] pays = {{-9999, 0}, {-1, 0}, {0, 0}, {1, 1}, {98, 98}, {99, 99}, {100, 99}, {9999, 99}};
        for (int[] p : pays) {
            CrystalByTheMinute x = ofAllKinds("0", "" + p[0]);
            for (int k = 0; k < 6; k++) {
                due.is("promise 6: pays " + p[0] + " for KIND " + k, x.glad(0, k, 1), p[1]);
                due.is("promise 6: pays " + p[0] + " for KIND " + k + ", not WISHED for", x.glad(1, k, 1), p[1]);
            }
        }
    }

    /** Terms: "Quotients are cut toward 0": also of what is below 0. */
    private static void promise6CutTowardZero() {
        glad("1", 1, 3, 0, 6, -9, 1);
        glad("2", 2, 4, 1, 8, -8, 1);
        glad("3", 3, 5, 1, 10, -8, 1);
        glad("-1", -1, 1, 0, 2, -9, 1);
        glad("-2", -2, 0, -1, 0, -10, 1);
        glad("-3", -3, -1, -1, -2, -10, 1);
    }

    /** No word of GLAD asks whether a FIGURE is UP, APPEARS or can pay. */
    private static void promise6WhoDoesNotAppear() {
        CrystalByTheMinute x = ofAllKinds("7", "6");
        int[] wants = {7, 9, 3, 18, -6, 1};
        for (int k = 0; k < 6; k++) {
            x.set(3, k, 0);
            due.is("promise 6: GLAD of one who is not UP", x.glad(0, k, 0), wants[k]);
            due.is("promise 6: pays for one who is not UP", x.glad(0, k, 1), 6);
        }
    }

    /** Terms: "Of joys, pays also for a CLIENT who comes then: wished: 1, if it is WISHED for, else 0." */
    private static void promise6NamesOfAClient() {
        CrystalByTheMinute x = new CrystalByTheMinute();
        x.figure(0, 9, 999);
        x.figure(0, 0, 0);
        x.client(11, 1);
        for (int c = 0; c < 4; c++) {
            x.client(0, 1);
        }
        x.force(Due.text(x, "prices 0;joys hour*5+clients;pays wished*50+hour+asked;"));
        due.is("promise 6: joys, hour 11, clients 1", x.glad(0, 0, 0), 56);
        due.is("promise 6: joys, hour 0, clients 4", x.glad(4, 0, 0), 4);
        due.is("promise 6: pays, wished 1, hour 11, asked 5", x.glad(0, 0, 1), 66);
        due.is("promise 6: pays, wished 0, hour 11, asked 0", x.glad(0, 1, 1), 11);
        x.force(Due.text(x, "prices 0;joys wished*9+(means=999)+number;pays (means=0)*7+number;"));
        due.is("promise 6: joys, wished 1, means 999, number 9", x.glad(4, 0, 0), 19);
        due.is("promise 6: pays, means 0, number 0", x.glad(4, 1, 1), 7);
        due.is("promise 6: pays, means 999, number 9", x.glad(4, 0, 1), 9);
    }
}
