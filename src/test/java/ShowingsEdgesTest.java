/** Boundary cases of promises 10 to 12, sentence by sentence; each test stands below the words that it holds to. */
final class ShowingsEdgesTest {
    private static final Due due = new Due("ShowingsEdgesTest");
    private static final int NONE = Edges.NONE, BAD = Edges.BAD, STATE = Edges.STATE, NOTHING = Edges.NOTHING;
    private static final int NO_ANSWER = Edges.NO_ANSWER, MAX = Edges.MAX, MIN = Edges.MIN;

    public static void main(String[] args) {
        promise10SheetOutside();
        promise10WhatOutside();
        promise10Missing();
        promise10Size();
        promise10NoFigure();
        promise10NobodyThere();
        promise10MeansToTheLast();
        promise10TheFirstWhoCanNot();
        promise10Appears();
        promise10FogAlwaysCan();
        promise10WrongAheadOfCanNot();
        promise10CostsNothing();
        promise10MeansAsTheyTrulyAre();
        promise11Order();
        promise11AllOrNothing();
        promise11Taken();
        promise11NobodyThere();
        promise12Refused();
        promise12NobodyThere();
        promise12Digits();
        promise12FogAheadOfNoJoy();
        promise12OfLikeOnesTheFirst();
        promise12MeansToTheLast();
        promise12PlainLooksAtWishesAlone();
        promise12SixFiguresFiveClients();
        due.end();
    }

    /** Two figures of MEANS 10 and 5, three clients; sheet 0 shows the second one, fog, the first one. */
    private static CrystalByTheMinute three() {
        CrystalByTheMinute x = new CrystalByTheMinute();
        x.figure(0, 0, 10);
        x.figure(0, 1, 5);
        x.client(0, 3);
        x.client(6, 1);
        x.client(11, 1);
        Due.sheet(x, 0, 0, 1, NONE, 0);
        return x;
    }

    // ---- promise 10

    /** "-100000: SHEET" */
    private static void promise10SheetOutside() {
        for (int sheet : new int[] {-1, 4, MIN, MAX}) {
            for (int what : new int[] {0, 1, 2, 10}) {
                due.is("promise 10: show(" + sheet + ", " + what + ")", three().show(sheet, what), NO_ANSWER);
            }
            Edges.leaves(due, "promise 10: show(" + sheet + ", 0)", ShowingsEdgesTest::three, x -> x.show(sheet, 0), NO_ANSWER);
        }
        for (int sheet = 0; sheet < 4; sheet++) {
            CrystalByTheMinute x = three();
            Due.sheet(x, sheet, 2, 1, NONE, 0);
            due.is("promise 10: show(" + sheet + ", 0)", x.show(sheet, 0), NONE);
        }
    }

    /** "-100000: .. what"; "MEANS left of FIGURE what less 10": of those that are here. */
    private static void promise10WhatOutside() {
        for (int what : new int[] {-1, 3, 9, 12, 15, 16, 20, MIN, MAX, MIN + 10}) {
            Edges.leaves(due, "promise 10: show(0, " + what + ")", ShowingsEdgesTest::three, x -> x.show(0, what), NO_ANSWER);
        }
        int[][] taken = {{0, NONE}, {1, 20}, {2, 26}, {10, 5}, {11, 0}};
        for (int[] t : taken) {
            Edges.leaves(due, "promise 10: show(0, " + t[0] + ")", ShowingsEdgesTest::three, x -> x.show(0, t[0]), t[1]);
        }
        CrystalByTheMinute x = Edges.crowded();
        Due.sheet(x, 0, 2, NONE, NONE, NONE, NONE, NONE);
        due.is("promise 10: what 15, of the sixth", x.show(0, 15), 115);
        due.is("promise 10: what 16", x.show(0, 16), NO_ANSWER);
    }

    /** "it is missing": as all are at first, and once more. */
    private static void promise10Missing() {
        CrystalByTheMinute x = three();
        for (int what : new int[] {0, 1, 2, 10}) {
            due.is("promise 10: show(3, " + what + ")", x.show(3, what), NO_ANSWER);
        }
        x.sheet(0, -1, 3);
        due.is("promise 10: show(0, 0) of one that went", x.show(0, 0), NO_ANSWER);
        // "it is missing" decides, though it would hold as many as there are CLIENTS: none
        due.is("promise 10: missing, and no CLIENTS", Edges.empty().show(0, 0), NO_ANSWER);
    }

    /** "its size isn't how many CLIENTS there are" */
    private static void promise10Size() {
        for (int n = 0; n <= 6; n++) {
            CrystalByTheMinute x = three();
            x.sheet(1, 2, n);
            for (int what : new int[] {0, 1, 2, 10}) {
                due.is("promise 10: of size " + n + ", what " + what, x.show(1, what) == NO_ANSWER ? 1 : 0, n == 3 ? 0 : 1);
            }
        }
        CrystalByTheMinute x = three();
        x.client(0, 0);
        due.is("promise 10: one CLIENT more", x.show(0, 0), NO_ANSWER);
        x.sheet(1, 0, 40);
        due.is("promise 10: of size 40", x.show(1, 0), NO_ANSWER);
    }

    /** "it tells one that is no FIGURE, nor NONE": in the first cell and in the last one. */
    private static void promise10NoFigure() {
        for (int sort = 0; sort < 3; sort++) {
            for (int at = 0; at < 3; at += 2) {
                for (int f = -3; f < 7; f++) {
                    CrystalByTheMinute x = three();
                    Due.sheet(x, 1, sort, NONE, NONE, NONE);
                    x.cell(1, at, f);
                    due.is("promise 10: sort " + sort + " tells " + f, x.show(1, 0), f >= NONE && f < 2 ? NONE : NO_ANSWER);
                }
            }
        }
        CrystalByTheMinute x = three();
        Due.sheet(x, 1, 2, NONE, NONE, MIN);
        due.is("promise 10: far below", x.show(1, 0), NO_ANSWER);
        Due.sheet(x, 1, 2, NONE, NONE, MAX);
        due.is("promise 10: far above", x.show(1, 0), NO_ANSWER);
        CrystalByTheMinute y = new CrystalByTheMinute();
        y.client(0, 0);
        y.sheet(0, 0, 1);
        due.is("promise 10: FIGURE 0 of none", y.show(0, 0), NO_ANSWER);
    }

    /** A sheet that is there but holds nothing is a SHOWING, where there are no CLIENTS. */
    private static void promise10NobodyThere() {
        CrystalByTheMinute x = new CrystalByTheMinute();
        x.sheet(0, 0, 0);
        due.is("promise 10: all of it CAN BE", x.show(0, 0), NONE);
        due.is("promise 10: JOY", x.show(0, 1), 0);
        due.is("promise 10: INCOME", x.show(0, 2), 0);
        due.is("promise 10: no FIGURE 0", x.show(0, 10), NO_ANSWER);
        x.figure(0, 0, 999);
        due.is("promise 10: MEANS left of FIGURE 0", x.show(0, 10), 999);
        x.sheet(0, 0, 1);
        due.is("promise 10: one cell, no CLIENTS", x.show(0, 0), NO_ANSWER);
    }

    /** "it CAN BE, if the FIGURE .. has MEANS left for what it COSTS, which are so much fewer then" */
    private static void promise10MeansToTheLast() {
        for (int means = 4; means <= 16; means++) {
            CrystalByTheMinute x = three();
            x.set(2, 0, means);
            Due.sheet(x, 0, 1, 0, 0, 0);
            int shown = Math.min(3, means / 5);
            String call = "promise 10: three times 5 of MEANS " + means;
            due.is(call, x.show(0, 0), shown == 3 ? NONE : shown);
            due.is(call + ", JOY", x.show(0, 1), 10 * shown);
            due.is(call + ", INCOME", x.show(0, 2), 13 * shown);
            due.is(call + ", left", x.show(0, 10), means - 5 * shown);
        }
    }

    /** "the first CLIENT of whom it CAN not BE", "JOY ahead of that one", "INCOME likewise", "MEANS left .. then": first, midst, last. */
    private static void promise10TheFirstWhoCanNot() {
        for (int who = 0; who < 3; who++) {
            CrystalByTheMinute x = three();
            x.figure(0, 0, 4);
            x.set(2, 0, 999);
            Due.sheet(x, 0, 2, 0, 0, 0);
            x.cell(0, who, 2);
            String call = "promise 10: CLIENT " + who + " CAN not";
            due.is(call, x.show(0, 0), who);
            due.is(call + ", JOY", x.show(0, 1), 10 * who);
            due.is(call + ", INCOME", x.show(0, 2), 13 * who);
            due.is(call + ", left of the other, not of CLIENTS behind", x.show(0, 10), 999 - 5 * who);
            due.is(call + ", left of who can't pay", x.show(0, 12), 4);
        }
    }

    /** "if the FIGURE APPEARS in that HOUR": each CLIENT's own one, first and last. */
    private static void promise10Appears() {
        CrystalByTheMinute x = three();
        Due.sheet(x, 0, 0, 0, NONE, 0);
        x.set(2, 0, 999);
        x.set(3, 0, 1 | 1 << 11);
        due.is("promise 10: UP in both HOURS", x.show(0, 0), NONE);
        x.set(3, 0, 1);
        due.is("promise 10: not UP in HOUR 11", x.show(0, 0), 2);
        x.set(3, 0, 1 << 11);
        due.is("promise 10: not UP in HOUR 0", x.show(0, 0), 0);
        x.set(2, 0, 0);
        x.set(3, 0, 1);
        due.is("promise 10: neither MEANS nor HOUR", x.show(0, 0), 0);
    }

    /** "fog always CAN", "Of fog: no joy, no pay." */
    private static void promise10FogAlwaysCan() {
        CrystalByTheMinute x = three();
        x.force(Due.text(x, "prices 9;joys 9;pays 9;"));
        x.set(2, 0, 0);
        x.set(2, 1, 0);
        x.set(3, 0, 0);
        x.set(3, 1, 0);
        for (int sort = 0; sort < 3; sort++) {
            Due.sheet(x, 0, sort, NONE, NONE, NONE);
            due.is("promise 10: fog CAN BE", x.show(0, 0), NONE);
            due.is("promise 10: no joy", x.show(0, 1), 0);
            due.is("promise 10: no pay", x.show(0, 2), 0);
        }
        CrystalByTheMinute y = new CrystalByTheMinute();
        y.client(0, 63);
        Due.sheet(y, 0, 0, NONE);
        due.is("promise 10: fog of no FIGURES", y.show(0, 0), NONE);
        due.is("promise 10: take() of it", y.take(0), 0);
    }

    /** A sheet that two sentences fit: "it tells one that is no FIGURE" decides, though an earlier CLIENT's CAN not BE. */
    private static void promise10WrongAheadOfCanNot() {
        CrystalByTheMinute x = three();
        x.set(2, 0, 0);
        Due.sheet(x, 0, 2, 0, NONE, 2);
        due.is("promise 10: what 0", x.show(0, 0), NO_ANSWER);
        due.is("promise 10: what 1", x.show(0, 1), NO_ANSWER);
        x.cell(0, 2, 1);
        due.is("promise 10: what 0", x.show(0, 0), 0);
    }

    /** COSTS of 0 are paid of MEANS 0. */
    private static void promise10CostsNothing() {
        CrystalByTheMinute x = new CrystalByTheMinute();
        x.figure(4, 0, 0);
        x.figure(0, 0, 0);
        x.client(0, 3);
        x.client(3, 3);
        Due.sheet(x, 0, 0, 0, 0);
        due.is("promise 10: a BURGLAR of no MEANS", x.show(0, 0), NONE);
        due.is("promise 10: its JOY", x.show(0, 1), -8);
        due.is("promise 10: its INCOME", x.show(0, 2), 16);
        Due.sheet(x, 0, 0, 1, 1);
        due.is("promise 10: a FIGURE of no MEANS", x.show(0, 0), 0);
        x.force(Due.text(x, "prices 0;joys 1;pays 0;"));
        due.is("promise 10: by prices 0", x.show(0, 0), NONE);
        due.is("promise 10: none left of none", x.show(0, 11), 0);
    }

    /** Terms: "means: MEANS as they truly are": "MEANS left" are others, so a showing's second price is as its first. */
    private static void promise10MeansAsTheyTrulyAre() {
        CrystalByTheMinute x = three();
        x.force(Due.text(x, "prices means-4;joys means;pays means;"));
        Due.sheet(x, 0, 0, 0, NONE, 0);
        due.is("promise 10: 6 and 6 of 10", x.show(0, 0), 2);
        due.is("promise 10: left", x.show(0, 10), 4);
        x.set(2, 0, 8);
        due.is("promise 10: 4 and 4 of 8", x.show(0, 0), NONE);
        due.is("promise 10: JOY", x.show(0, 1), 16);
        due.is("promise 10: INCOME", x.show(0, 2), 24);
    }

    // ---- promise 11

    private static CrystalByTheMinute sheetsOfAllFaults() {
        CrystalByTheMinute x = three();
        x.sheet(1, 0, 2);
        Due.sheet(x, 2, 2, 0, 0, 0);
        return x;
    }

    private static CrystalByTheMinute telling(int f) {
        CrystalByTheMinute x = three();
        Due.sheet(x, 2, 2, 0, 0, f);
        return x;
    }

    /** "BAD: SHEET; -11; BAD: likewise; STATE: it can't." */
    private static void promise11Order() {
        for (int sheet : new int[] {-1, 4, MIN, MAX}) {
            Edges.leaves(due, "promise 11: take(" + sheet + ")", ShowingsEdgesTest::three, x -> x.take(sheet), BAD);
        }
        Edges.leaves(due, "promise 11: take() of a missing one", ShowingsEdgesTest::three, x -> x.take(3), NOTHING);
        // -11 decides, though a missing one isn't of the size either
        Edges.leaves(due, "promise 11: take() of a missing one, no CLIENTS", Edges::empty, x -> x.take(0), NOTHING);
        Edges.leaves(due, "promise 11: take() of another size", ShowingsEdgesTest::sheetsOfAllFaults, x -> x.take(1), BAD);
        Edges.leaves(due, "promise 11: take() of what can't be", ShowingsEdgesTest::sheetsOfAllFaults, x -> x.take(2), STATE);
        for (int f : new int[] {-2, 2, 6, MIN, MAX}) {
            // "BAD: likewise" decides, ahead of STATE: CLIENT 1's can't be, and CLIENT 2's is no FIGURE
            CrystalByTheMinute poor = telling(f);
            poor.set(2, 0, 0);
            due.is("promise 11: take() of no FIGURE, and it can't", poor.take(2), BAD);
            Edges.leaves(due, "promise 11: take() of " + f, () -> telling(f), x -> x.take(2), BAD);
        }
    }

    /** "if all of it CAN BE": what could be ahead of one who can't is not taken. */
    private static void promise11AllOrNothing() {
        for (int who = 0; who < 3; who++) {
            CrystalByTheMinute x = three();
            x.set(2, 0, 999);
            x.set(2, 1, 4);
            Due.sheet(x, 0, 2, 0, 0, 0);
            x.cell(0, who, 1);
            String before = Due.state(x);
            due.is("promise 11: CLIENT " + who + " can't", x.take(0), STATE);
            due.same("promise 11: CLIENT " + who + " can't", Due.state(x), before);
        }
    }

    /** "It, truly ..: MEANS are what is left; INCOME." To the last; and then no more. */
    private static void promise11Taken() {
        CrystalByTheMinute x = three();
        due.is("promise 11: take(0)", x.take(0), 26);
        due.is("promise 11: MEANS of FIGURE 0", x.told(0, 2), 5);
        due.is("promise 11: MEANS of FIGURE 1", x.told(1, 2), 0);
        due.is("promise 11: MEANS of all", x.count(2), 5);
        due.is("promise 11: the sheet is as it was", x.show(0, 0), 0);
        due.is("promise 11: take(0) again", x.take(0), STATE);
        Due.sheet(x, 0, 1, 0, NONE, NONE);
        due.is("promise 11: the last five", x.take(0), 13);
        due.is("promise 11: none left", x.count(2), 0);
        due.is("promise 11: none left", x.take(0), STATE);
        Due.sheet(x, 0, 1, NONE, NONE, NONE);
        due.is("promise 11: fog", x.take(0), 0);
        due.is("promise 11: two FIGURES still", x.count(0) * 10 + x.count(1), 23);
    }

    /** A sheet that is there but holds nothing, for no CLIENTS: all of it CAN BE. */
    private static void promise11NobodyThere() {
        CrystalByTheMinute x = new CrystalByTheMinute();
        x.figure(0, 0, 7);
        x.sheet(0, 0, 0);
        due.is("promise 11: take() of none", x.take(0), 0);
        due.is("promise 11: MEANS", x.told(0, 2), 7);
        x.client(0, 0);
        due.is("promise 11: take() of none, one CLIENT", x.take(0), BAD);
    }

    // ---- promise 12

    /** "-100000: how, what." */
    private static void promise12Refused() {
        for (int bad : new int[] {-1, 3, 10, MIN, MAX}) {
            for (int other = 0; other < 3; other++) {
                int o = other;
                Edges.leaves(due, "promise 12: showing(" + bad + ", " + o + ")", Edges::small, x -> x.showing(bad, o), NO_ANSWER);
                Edges.leaves(due, "promise 12: showing(" + o + ", " + bad + ")", Edges::small, x -> x.showing(o, bad), NO_ANSWER);
            }
            due.is("promise 12: showing(" + bad + ", " + bad + ")", Edges.small().showing(bad, bad), NO_ANSWER);
        }
        for (int how = 0; how < 3; how++) {
            for (int what = 0; what < 3; what++) {
                int h = how;
                int w = what;
                long want = Edges.crowded().showing(how, what);
                due.is("promise 12: showing() is answered", want >= 0 ? 1 : 0, 1);
                Edges.leaves(due, "promise 12: showing(" + h + ", " + w + ")", Edges::crowded, x -> x.showing(h, w), want);
            }
        }
    }

    /** An empty world: no digits, no JOY, no INCOME; CLIENTS alone: fog to each. */
    private static void promise12NobodyThere() {
        CrystalByTheMinute clients = new CrystalByTheMinute();
        CrystalByTheMinute figures = new CrystalByTheMinute();
        for (int i = 0; i < 5; i++) {
            clients.client(i, 63);
            figures.figure(i, 0, 999);
        }
        for (int how = 0; how < 3; how++) {
            for (int what = 0; what < 3; what++) {
                String call = "promise 12: showing(" + how + ", " + what + ")";
                due.is(call + " of none", Edges.empty().showing(how, what), 0);
                due.is(call + " of CLIENTS alone", clients.showing(how, what), 0);
                due.is(call + " of FIGURES alone", figures.showing(how, what), 0);
            }
        }
    }

    /** "as digits: 0 fog, else 1 more than the FIGURE, CLIENT 0's the highest" */
    private static void promise12Digits() {
        for (int f = 0; f < 6; f++) {
            for (int c = 0; c < 5; c++) {
                CrystalByTheMinute x = new CrystalByTheMinute();
                for (int i = 0; i < 6; i++) {
                    x.figure(0, 0, i == f ? 5 : 0);
                }
                for (int i = 0; i < 5; i++) {
                    x.client(0, i == c ? 63 : 0);
                }
                int digits = (f + 1) * new int[] {10000, 1000, 100, 10, 1}[c];
                due.is("promise 12: GLADDEST, FIGURE " + f + " to CLIENT " + c, x.showing(0, 0), digits);
                due.is("promise 12: RICHEST", x.showing(1, 0), digits);
                due.is("promise 12: PLAIN", x.showing(2, 0), digits);
            }
        }
    }

    /** "of like ones the first (.. fog ahead of FIGURES ..)": who brings no JOY, no INCOME, or less, isn't shown. */
    private static void promise12FogAheadOfNoJoy() {
        int[] joys = {-1, 0, 1};
        int[] wants = {0, 0, 1};
        for (int i = 0; i < 3; i++) {
            CrystalByTheMinute x = new CrystalByTheMinute();
            x.figure(0, 0, 999);
            x.client(0, 1);
            x.force(Due.text(x, "prices 0;joys " + joys[i] + ";pays " + joys[i] + ";"));
            due.is("promise 12: GLADDEST by joys " + joys[i], x.showing(0, 0), wants[i]);
            due.is("promise 12: its JOY", x.showing(0, 1), wants[i]);
            due.is("promise 12: RICHEST by pays " + joys[i], x.showing(1, 0), wants[i]);
            due.is("promise 12: its INCOME", x.showing(1, 2), wants[i]);
            // "the first FIGURE that is WISHED for" decides of PLAIN, whatever joy it brings
            due.is("promise 12: PLAIN", x.showing(2, 0), 1);
            due.is("promise 12: its JOY", x.showing(2, 1), joys[i]);
        }
    }

    /** "of like ones the first (CLIENT 0's least: fog ahead of FIGURES, these by numbers; then CLIENT 1's, ..)" */
    private static void promise12OfLikeOnesTheFirst() {
        CrystalByTheMinute x = new CrystalByTheMinute();
        x.figure(0, 0, 5);
        for (int c = 0; c < 5; c++) {
            x.client(0, 1);
        }
        due.is("promise 12: fog to CLIENT 0 .. 3", x.showing(0, 0), 1);
        due.is("promise 12: RICHEST likewise", x.showing(1, 0), 1);
        due.is("promise 12: PLAIN to the first", x.showing(2, 0), 10000);
        CrystalByTheMinute y = new CrystalByTheMinute();
        for (int f = 0; f < 6; f++) {
            y.figure(0, 0, 5);
        }
        for (int c = 0; c < 5; c++) {
            y.client(0, 63);
        }
        due.is("promise 12: FIGURES by numbers", y.showing(0, 0), 12345);
        due.is("promise 12: RICHEST likewise", y.showing(1, 0), 12345);
        due.is("promise 12: PLAIN likewise", y.showing(2, 0), 12345);
        y.set(5, 0, 32);
        due.is("promise 12: CLIENT 0 WISHES for the last alone", y.showing(0, 0), 61234);
        due.is("promise 12: likewise, PLAIN", y.showing(2, 0), 61234);
    }

    /** "of all SHOWINGS that CAN BE": MEANS to the last, and one less. */
    private static void promise12MeansToTheLast() {
        for (int means = 0; means <= 26; means++) {
            CrystalByTheMinute x = new CrystalByTheMinute();
            x.figure(0, 0, means);
            for (int c = 0; c < 5; c++) {
                x.client(0, 1);
            }
            int shown = Math.min(5, means / 5);
            String ones = "11111".substring(0, shown);
            String call = "promise 12: MEANS " + means;
            due.is(call + ", GLADDEST", x.showing(0, 0), shown == 0 ? 0 : Integer.parseInt(ones));
            due.is(call + ", its JOY", x.showing(0, 1), 10 * shown);
            due.is(call + ", RICHEST's INCOME", x.showing(1, 2), 13 * shown);
            due.is(call + ", PLAIN", x.showing(2, 0), Integer.parseInt((ones + "00000").substring(0, 5)));
        }
    }

    /** "the first FIGURE that is WISHED for, by numbers, that CAN BE; fog, if none" */
    private static void promise12PlainLooksAtWishesAlone() {
        CrystalByTheMinute x = new CrystalByTheMinute();
        x.figure(0, 0, 4);
        x.figure(1, 0, 999);
        x.figure(4, 1, 0);
        x.figure(5, 0, 999);
        x.client(0, 15);
        x.client(1, 15);
        x.client(2, 8);
        x.client(2, 7);
        x.client(2, 0);
        due.is("promise 12: PLAIN", x.showing(2, 0), 43420);
        due.is("promise 12: its JOY", x.showing(2, 1), 1 - 4 + 1 + 12);
        due.is("promise 12: its INCOME", x.showing(2, 2), 13 + 8 + 13 + 18);
    }

    /** The most that there can be of both. */
    private static void promise12SixFiguresFiveClients() {
        CrystalByTheMinute x = new CrystalByTheMinute();
        for (int f = 0; f < 6; f++) {
            x.figure(3, 9, 999);
        }
        for (int c = 0; c < 5; c++) {
            x.client(9, 32);
        }
        x.force(Due.text(x, "prices 5;joys 99;pays 99;"));
        due.is("promise 12: GLADDEST", x.showing(0, 0), 66666);
        due.is("promise 12: its JOY", x.showing(0, 1), 5 * 202);
        due.is("promise 12: its INCOME", x.showing(0, 2), 5 * (19 + 99));
        due.is("promise 12: RICHEST, the first of like ones", x.showing(1, 0), 11111);
        due.is("promise 12: its JOY", x.showing(1, 1), 5 * 4);
        due.is("promise 12: PLAIN", x.showing(2, 0), 66666);
        x.force(Due.text(x, "prices 99;joys -99;pays 99;"));
        x.set(0, 0, 9);
        due.is("promise 12: PLAIN, who can pay once", x.showing(2, 0), 60000);
        due.is("promise 12: the least JOY of one", x.showing(2, 1), -194);
        due.is("promise 12: 999 once each", x.showing(1, 0), 12345);
        due.is("promise 12: its INCOME", x.showing(1, 2), 5 * (999 + 99));
    }
}
