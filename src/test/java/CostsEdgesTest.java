/** Boundary cases of promises 18 to 24, sentence by sentence; each test stands below the words that it holds to. */
final class CostsEdgesTest {
    private static final Due due = new Due("CostsEdgesTest");
    private static final int NONE = Edges.NONE, BAD = Edges.BAD, STATE = Edges.STATE, NOTHING = Edges.NOTHING;
    private static final int MAX = Edges.MAX, MIN = Edges.MIN;
    private static final long NO = Edges.NO;

    public static void main(String[] args) {
        promise18Order();
        promise18TwelveAtMost();
        promise18ASheetOfNothing();
        promise18TheFirstOtherwise();
        promise18FirstAndLastOfEach();
        promise18MeansFirstAndLast();
        promise18AllMeansOrNone();
        promise18NoneDoes();
        promise18OneIsChangedAtATime();
        promise18AsNarrowAsItIs();
        promise19Refused();
        promise19NoneToTwelve();
        promise19Becomes();
        promise19TheDearest();
        promise20NobodyThere();
        promise20Seeds();
        promise20AllThatWouldBe();
        promise21Refused();
        promise21InLowestTerms();
        promise21KOrMore();
        promise21SeedsWrap();
        promise21NobodyThere();
        promise22HowMany();
        promise23NoneYet();
        promise23AllThatItKeeps();
        promise23WhoWentIsShownNoMore();
        promise23WhatItDoesNotKeep();
        promise23AgainAndAnew();
        promise23OfNobody();
        promise23Full();
        promise24Refused();
        promise24LeastAndMost();
        due.end();
    }

    // ---- promise 18

    private static CrystalByTheMinute sheets() {
        CrystalByTheMinute x = Edges.small();
        x.sheet(0, 0, 13);
        return x;
    }

    private static CrystalByTheMinute noFigures() {
        CrystalByTheMinute x = new CrystalByTheMinute();
        Due.sheet(x, 0, 0, 5);
        return x;
    }

    /** "BAD: SHEET, no such FIGURE, what; -11; BAD: it tells more than 12." */
    private static void promise18Order() {
        for (int bad : new int[] {-1, 4, 6, MIN, MAX}) {
            Edges.leaves(due, "promise 18: tells(" + bad + ", 0, 0)", Edges::small, x -> x.tells(bad, 0, 0), BAD);
            Edges.leaves(due, "promise 18: tells(0, " + bad + ", 0)", Edges::small, x -> x.tells(0, bad, 0), BAD);
        }
        for (int what : new int[] {-1, 7, 10, MIN, MAX}) {
            Edges.leaves(due, "promise 18: tells(0, 0, " + what + ")", Edges::small, x -> x.tells(0, 0, what), BAD);
            // the first BAD decides, ahead of -11: sheet 3 is missing
            Edges.leaves(due, "promise 18: tells(3, 0, " + what + ")", Edges::small, x -> x.tells(3, 0, what), BAD);
        }
        Edges.leaves(due, "promise 18: tells(0, 2, 0), no such FIGURE", Edges::small, x -> x.tells(0, 2, 0), BAD);
        // the first BAD decides, ahead of -11
        Edges.leaves(due, "promise 18: tells(3, 2, 0), no such FIGURE", Edges::small, x -> x.tells(3, 2, 0), BAD);
        Edges.leaves(due, "promise 18: tells(0, 0, 0) of none", CostsEdgesTest::noFigures, x -> x.tells(0, 0, 0), BAD);
        for (int what = 0; what < 7; what++) {
            int w = what;
            Edges.leaves(due, "promise 18: tells(3, 0, " + w + ") of a missing one", Edges::small, x -> x.tells(3, 0, w), NOTHING);
            Edges.leaves(due, "promise 18: tells(0, 0, " + w + ") of 13", CostsEdgesTest::sheets, x -> x.tells(0, 0, w), BAD);
        }
    }

    /** "(12 at most)": of a row of 12 each is looked at; of more none is, however it begins. */
    private static void promise18TwelveAtMost() {
        CrystalByTheMinute x = new CrystalByTheMinute();
        x.figure(0, 0, 0);
        for (int n : new int[] {1, 11, 12, 13, 40}) {
            x.sheet(0, 2, n);
            for (int i = 0; i < n; i++) {
                x.cell(0, i, 5);
            }
            due.is("promise 18: " + n + " times 5", x.tells(0, 0, 0), n > 12 ? BAD : NONE);
            x.cell(0, n - 1, 6);
            due.is("promise 18: 6 at the end of " + n, x.tells(0, 0, 0), n > 12 ? BAD : n - 1);
            due.is("promise 18: RATES by 6 at the end of " + n, x.tells(0, 0, 3), n > 12 ? BAD : 0);
        }
    }

    /** A sheet that is there but holds nothing tells of no HOUR: nothing is otherwise, by whatever it may be. */
    private static void promise18ASheetOfNothing() {
        CrystalByTheMinute x = new CrystalByTheMinute();
        for (int k = 0; k < 6; k++) {
            x.figure(k, k, 0);
        }
        x.force(Due.text(x, "prices means+hour;joys 0;pays 0;"));
        Due.text(x, "prices 1;joys 0;pays 0;");
        for (int sort = 0; sort < 3; sort++) {
            x.sheet(sort, sort, 0);
            int[] wants = {NONE, 63, 1023, 1022, 7, 1000, 0};
            for (int k = 0; k < 6; k++) {
                for (int what = 0; what < 7; what++) {
                    due.is("promise 18: tells(" + sort + ", " + k + ", " + what + ") of none", x.tells(sort, k, what), wants[what]);
                }
            }
        }
    }

    /** "the first HOUR that is otherwise; NONE": each of twelve, and of two the first. */
    private static void promise18TheFirstOtherwise() {
        CrystalByTheMinute x = new CrystalByTheMinute();
        x.figure(0, 0, 0);
        x.force(Due.text(x, "prices hour+1;joys 0;pays 0;"));
        for (int h = 0; h < 12; h++) {
            x.film(0, 0, 12);
            due.is("promise 18: as filmed", x.tells(0, 0, 0), NONE);
            x.cell(0, 11, 0);
            x.cell(0, h, h == 11 ? 13 : h);
            due.is("promise 18: one less in HOUR " + h, x.tells(0, 0, 0), h);
            x.cell(0, h, h + 2);
            due.is("promise 18: one more in HOUR " + h, x.tells(0, 0, 0), h);
            due.is("promise 18: TEXTS", x.tells(0, 0, 4), 0);
        }
    }

    /** "KINDS (bits 0 .. 5), NUMBERS (bits 0 .. 9), RATES (bits 1 .. 9), TEXTS (bits)": the first and the last of each. */
    private static void promise18FirstAndLastOfEach() {
        CrystalByTheMinute x = new CrystalByTheMinute();
        x.figure(3, 4, 0);
        String[] texts = {"number+1", "number*2+1", "7", "8", "9"};
        for (String text : texts) {
            Due.text(x, "prices " + text + ";joys 0;pays 0;");
        }
        int[][] numbers = {{0, 10}, {4, 14}, {9, 19}};
        for (int[] n : numbers) {
            Due.sheet(x, 0, 2, n[1]);
            due.is("promise 18: NUMBERS by " + n[1], x.tells(0, 0, 2), 1 << n[0]);
        }
        Due.sheet(x, 0, 2, 20);
        due.is("promise 18: NUMBERS by 20, of none", x.tells(0, 0, 2), 0);
        Due.sheet(x, 0, 2, 9);
        due.is("promise 18: NUMBERS by 9, of none", x.tells(0, 0, 2), 0);
        int[][] rates = {{1, 14}, {5, 54}, {9, 94}};
        for (int[] r : rates) {
            Due.sheet(x, 0, 2, r[1]);
            due.is("promise 18: RATES by " + r[1], x.tells(0, 0, 3), 1 << r[0]);
        }
        Due.sheet(x, 0, 2, 4);
        due.is("promise 18: RATES by 4: none is 0", x.tells(0, 0, 3), 0);
        Due.sheet(x, 0, 2, 104);
        due.is("promise 18: RATES by 104: none is 10", x.tells(0, 0, 3), 0);
        // of TEXTS 1 to 5 a STRANGER of NUMBER 4 costs 14, 22, 18, 20, 22; of TEXT 0 14
        Due.sheet(x, 0, 2, 14);
        due.is("promise 18: TEXTS by 14", x.tells(0, 0, 4), 1 | 1 << 1);
        Due.sheet(x, 0, 2, 22);
        due.is("promise 18: TEXTS by 22", x.tells(0, 0, 4), 1 << 2 | 1 << 5);
        due.is("promise 18: KINDS by 22, of none", x.tells(0, 0, 1), 0);
        int[][] kinds = {{5, 1 | 1 << 5}, {10, 1 << 1}, {2, 1 << 2}, {14, 1 << 3}, {0, 1 << 4}};
        for (int[] k : kinds) {
            Due.sheet(x, 0, 2, k[0]);
            due.is("promise 18: KINDS by " + k[0], x.tells(0, 0, 1), k[1]);
        }
        x.force(5);
        Due.sheet(x, 0, 2, 5, 5);
        due.is("promise 18: a LAMP alone", x.tells(0, 0, 1), 1 << 5);
    }

    /** "MEANS (of 0 .. 999: how many, the least), likewise": the first, the last, all. */
    private static void promise18MeansFirstAndLast() {
        CrystalByTheMinute x = new CrystalByTheMinute();
        x.figure(0, 0, 500);
        x.force(Due.text(x, "prices (means=0)*3+(means=999)*4+(means=998)*6;joys 0;pays 0;"));
        int[][] wants = {{3, 1, 0}, {4, 1, 999}, {6, 1, 998}, {0, 997, 1}, {5, 0, NONE}};
        for (int[] w : wants) {
            Due.sheet(x, 0, 1, w[0]);
            due.is("promise 18: MEANS by " + w[0], x.tells(0, 0, 5), w[1]);
            due.is("promise 18: the least by " + w[0], x.tells(0, 0, 6), w[2]);
        }
        due.is("promise 18: MEANS are as they were", x.told(0, 2), 500);
        x.force(Due.text(x, "prices (1000=means)+(means<0);joys means;pays means;"));
        Due.sheet(x, 0, 1, 0, 0);
        due.is("promise 18: none beyond", x.tells(0, 0, 5), 1000);
        due.is("promise 18: the least", x.tells(0, 0, 6), 0);
    }

    /** By a TEXT whose prices don't ask for means all MEANS do, or none; joys and pays do not matter. */
    private static void promise18AllMeansOrNone() {
        for (String text : new String[] {"prices 7;joys 7;pays 7;", "prices 7;joys means;pays means;", "prices 7+0*means;joys 1;pays 1;"}) {
            CrystalByTheMinute x = new CrystalByTheMinute();
            x.figure(0, 0, 9);
            x.force(Due.text(x, text));
            for (int cell = 6; cell <= 8; cell++) {
                Due.sheet(x, 0, 0, 7, cell);
                due.is("promise 18: MEANS by " + cell + ", " + text, x.tells(0, 0, 5), cell == 7 ? 1000 : 0);
                due.is("promise 18: the least by " + cell + ", " + text, x.tells(0, 0, 6), cell == 7 ? 0 : NONE);
            }
        }
    }

    /** "(what 6; NONE)", no bits, none of a thousand: by what nothing costs. */
    private static void promise18NoneDoes() {
        int[] wants = {0, 0, 0, 0, 0, 0, NONE};
        for (int cell : new int[] {-1, 1000, MIN, MAX}) {
            for (int what = 0; what < 7; what++) {
                CrystalByTheMinute x = new CrystalByTheMinute();
                x.figure(0, 0, 0);
                Due.sheet(x, 0, 2, cell);
                due.is("promise 18: by " + cell + ", what " + what, x.tells(0, 0, what), wants[what]);
            }
        }
    }

    /** "by which all would be so": each of it alone, the others as they are; nothing truly changes. */
    private static void promise18OneIsChangedAtATime() {
        int[] wants = {0, 1 << 4, 0, 0, 0, 1, 0};
        for (int what = 0; what < 7; what++) {
            int w = what;
            Edges.leaves(due, "promise 18: tells(0, 0, " + w + ")", CostsEdgesTest::zeros, x -> x.tells(0, 0, w), wants[w]);
        }
    }

    private static CrystalByTheMinute zeros() {
        CrystalByTheMinute x = Edges.small();
        Due.sheet(x, 0, 0, 0, 0);
        x.set(2, 0, 7);
        return x;
    }

    /** A cell is what its sort made of it (promise 26): so a byte never tells 128 or more. */
    private static void promise18AsNarrowAsItIs() {
        CrystalByTheMinute x = new CrystalByTheMinute();
        x.figure(0, 0, 0);
        x.set(0, 0, 2);
        for (int price = 63; price <= 64; price++) {
            x.force(Due.text(x, "prices " + price + ";joys 0;pays 0;"));
            for (int sort = 0; sort < 3; sort++) {
                Due.sheet(x, sort, sort, 2 * price);
                due.is("promise 18: " + 2 * price + " in sort " + sort, x.tells(sort, 0, 0), sort == 0 && price == 64 ? 0 : NONE);
            }
        }
    }

    // ---- promise 19

    /** "BAD.": no such SHEET, no such FIGURE, n outside 0 .. 12. */
    private static void promise19Refused() {
        for (int bad : new int[] {-1, 4, 6, MIN, MAX}) {
            Edges.leaves(due, "promise 19: film(" + bad + ", 0, 1)", Edges::small, x -> x.film(bad, 0, 1), BAD);
            Edges.leaves(due, "promise 19: film(0, " + bad + ", 1)", Edges::small, x -> x.film(0, bad, 1), BAD);
        }
        Edges.leaves(due, "promise 19: film(0, 2, 1)", Edges::small, x -> x.film(0, 2, 1), BAD);
        Edges.leaves(due, "promise 19: film(0, 0, 1) of none", Edges::empty, x -> x.film(0, 0, 1), BAD);
        // no such FIGURE decides, though none of its HOURS is asked
        Edges.leaves(due, "promise 19: film(0, 0, 0) of none", Edges::empty, x -> x.film(0, 0, 0), BAD);
        for (int n : new int[] {-1, 13, 40, MIN, MAX}) {
            Edges.leaves(due, "promise 19: film(0, 0, " + n + ")", Edges::small, x -> x.film(0, 0, n), BAD);
            Edges.leaves(due, "promise 19: film(3, 0, " + n + ") of a missing one", Edges::small, x -> x.film(3, 0, n), BAD);
        }
    }

    /** "in HOURS 0 .. n less 1 (0 .. 12; shorts): n" */
    private static void promise19NoneToTwelve() {
        for (int n = 0; n <= 12; n++) {
            CrystalByTheMinute x = new CrystalByTheMinute();
            x.figure(0, 0, 0);
            x.force(Due.text(x, "prices hour*3+1;joys 0;pays 0;"));
            due.is("promise 19: film(3, 0, " + n + ")", x.film(3, 0, n), n);
            due.is("promise 19: of " + n, Edges.size(x, 3), n);
            due.is("promise 19: of shorts", Edges.sort(x, 3), 1);
            due.is("promise 19: it is so", x.tells(3, 0, 0), NONE);
            Edges.beginReading(x);
            x.sheet(0, 1, 12);
            x.copy(3, 0, 0, 0, n);
            for (int h = 0; h < 12; h++) {
                due.is("promise 19: HOUR " + h + " of " + n, Edges.read(x, 0, h), h < n ? 3 * h + 1 : 0);
            }
        }
    }

    /** "A SHEET truly becomes": whatever it was, missing, longer, of another sort; no other one does. */
    private static void promise19Becomes() {
        for (int sort = -1; sort < 3; sort++) {
            CrystalByTheMinute x = new CrystalByTheMinute();
            x.figure(0, 0, 0);
            x.sheet(1, sort, 40);
            x.cell(1, 1, 77);
            due.is("promise 19: film(1, 0, 2)", x.film(1, 0, 2), 2);
            due.is("promise 19: shorts", Edges.sort(x, 1), 1);
            due.is("promise 19: two", Edges.size(x, 1), 2);
            due.is("promise 19: COSTS", x.tells(1, 0, 0), NONE);
            for (int other : new int[] {0, 2, 3}) {
                due.is("promise 19: sheet " + other + " is missing", x.cell(other, 0, 0), NOTHING);
            }
        }
    }

    /** The most that one can COST is no more than a short holds. */
    private static void promise19TheDearest() {
        CrystalByTheMinute x = new CrystalByTheMinute();
        x.figure(1, 0, 0);
        x.set(0, 0, 9);
        x.force(Due.text(x, "prices 99;joys 0;pays 0;"));
        x.film(0, 0, 12);
        due.is("promise 19: 999", x.tells(0, 0, 0), NONE);
        Due.sheet(x, 1, 2, 999, 999, 999, 999, 999, 999, 999, 999, 999, 999, 999, 999);
        due.is("promise 19: 999", x.tells(1, 0, 0), NONE);
        // "what a FIGURE COSTS" asks not whether it is UP, nor whether it APPEARS
        x.set(3, 0, 0);
        x.film(0, 0, 12);
        due.is("promise 19: not UP", x.tells(0, 0, 0), NONE);
        due.is("promise 19: not UP", x.tells(1, 0, 0), NONE);
    }

    // ---- promise 20

    private static void promise20NobodyThere() {
        for (int seed : new int[] {0, 1, -1, MIN, MAX}) {
            due.is("promise 20: drawn(" + seed + ") of none", Edges.empty().drawn(seed), 0);
            CrystalByTheMinute clients = new CrystalByTheMinute();
            clients.client(0, 63);
            due.is("promise 20: drawn(" + seed + ") of CLIENTS alone", clients.drawn(seed), 0);
            CrystalByTheMinute figures = new CrystalByTheMinute();
            figures.figure(0, 0, 0);
            due.is("promise 20: drawn(" + seed + ") of FIGURES alone", figures.drawn(seed), 0);
        }
    }

    /** Each client is as glad as the MEANS that are drawn for his figure, 0 .. 99 alike. */
    private static CrystalByTheMinute oneByOne(int figures) {
        CrystalByTheMinute x = new CrystalByTheMinute();
        for (int f = 0; f < figures; f++) {
            x.figure(0, 0, 500 + f);
            if (f < 5) {
                x.client(f, 1 << f);
            }
        }
        x.force(Due.text(x, "prices 0;joys means;pays 0;"));
        return x;
    }

    /** "(z >>> 9) % 100, z being z * 1103515245 + 12345 (an int; SEED at first) anew for each": the ends of an int, too. */
    private static void promise20Seeds() {
        for (int seed : new int[] {0, 1, -1, 2, -2, 12345, 1103515245, MIN, MIN + 1, MAX, MAX - 1}) {
            int z = seed;
            int joy = 0;
            for (int figures = 1; figures <= 5; figures++) {
                z = z * 1103515245 + 12345;
                joy += (z >>> 9) % 100;
                int want = joy;
                Edges.leaves(due, "promise 20: drawn(" + seed + ") of " + figures, ofSo(figures), x -> x.drawn(seed), want);
            }
        }
    }

    private static java.util.function.Supplier<CrystalByTheMinute> ofSo(int figures) {
        return () -> oneByOne(figures);
    }

    /** "MEANS .. would be": what one has does not matter; 0 can be drawn, and is too few. */
    private static void promise20AllThatWouldBe() {
        CrystalByTheMinute x = oneByOne(6);
        int at = x.drawn(7);
        for (int means : new int[] {0, 999}) {
            for (int f = 0; f < 6; f++) {
                x.set(2, f, means);
            }
            due.is("promise 20: whatever MEANS they have", x.drawn(7), at);
        }
        // the first seed that draws just 5 for FIGURE 0 and the first that draws 4
        for (int means = 4; means <= 5; means++) {
            int seed = 0;
            while (((seed * 1103515245 + 12345) >>> 9) % 100 != means) {
                seed++;
            }
            CrystalByTheMinute y = new CrystalByTheMinute();
            y.figure(0, 0, 999);
            y.client(0, 1);
            due.is("promise 20: " + means + " drawn, 5 to pay", y.drawn(seed), means == 5 ? 10 : 0);
        }
    }

    // ---- promise 21

    /** "NO: n, k, part."; Terms: n seeds (1 .. 20), k (0 .. 999). */
    private static void promise21Refused() {
        for (int bad : new int[] {-1, 0, 21, 22, MIN, MAX}) {
            Edges.leaves(due, "promise 21: chance(1, " + bad + ", 0, 0)", Edges::small, x -> x.chance(1, bad, 0, 0), NO);
            Edges.leaves(due, "promise 21: chance(1, " + bad + ", 0, 1)", Edges::small, x -> x.chance(1, bad, 0, 1), NO);
        }
        for (int bad : new int[] {-1, 1000, 1001, MIN, MAX}) {
            Edges.leaves(due, "promise 21: chance(1, 1, " + bad + ", 0)", Edges::small, x -> x.chance(1, 1, bad, 0), NO);
            Edges.leaves(due, "promise 21: chance(1, 20, " + bad + ", 1)", Edges::small, x -> x.chance(1, 20, bad, 1), NO);
        }
        for (int bad : new int[] {-1, 2, 10, MIN, MAX}) {
            Edges.leaves(due, "promise 21: chance(1, 1, 0, " + bad + ")", Edges::small, x -> x.chance(1, 1, 0, bad), NO);
        }
        due.is("promise 21: all of it", Edges.empty().chance(0, 0, -1, 2), NO);
        for (int n : new int[] {1, 20}) {
            for (int k : new int[] {0, 999}) {
                Edges.leaves(due, "promise 21: chance(1, " + n + ", " + k + ", 0)", CostsEdgesTest::small, x -> x.chance(1, n, k, 0), k == 0 ? 1 : 0);
                Edges.leaves(due, "promise 21: chance(1, " + n + ", " + k + ", 1)", CostsEdgesTest::small, x -> x.chance(1, n, k, 1), 1);
            }
        }
    }

    /** JOY is never below 0 here. */
    private static CrystalByTheMinute small() {
        CrystalByTheMinute x = Edges.small();
        x.force(0);
        return x;
    }

    /** "part 0 above, 1 below the line, in lowest terms": none is 0 in 1, all are 1 in 1. */
    private static void promise21InLowestTerms() {
        CrystalByTheMinute x = oneByOne(1);
        for (int n = 1; n <= 20; n++) {
            int times = 0;
            for (int i = 0; i < n; i++) {
                times += drawnMeans(100 + i) >= 50 ? 1 : 0;
            }
            int d = gcd(times, n);
            due.is("promise 21: above, in " + n, x.chance(100, n, 50, 0), times / d);
            due.is("promise 21: below, in " + n, x.chance(100, n, 50, 1), n / d);
            due.is("promise 21: none, above", x.chance(100, n, 100, 0), 0);
            due.is("promise 21: none, below", x.chance(100, n, 100, 1), 1);
            due.is("promise 21: all, above", x.chance(100, n, 0, 0), 1);
            due.is("promise 21: all, below", x.chance(100, n, 0, 1), 1);
        }
    }

    private static int drawnMeans(int seed) {
        return ((seed * 1103515245 + 12345) >>> 9) % 100;
    }

    private static int gcd(int a, int b) {
        return b == 0 ? a : gcd(b, a % b);
    }

    /** "of these those by which it is k or more": k itself counts; JOY below 0 is less than 0. */
    private static void promise21KOrMore() {
        CrystalByTheMinute x = oneByOne(2);
        for (int seed = 1; seed <= 20; seed++) {
            int joy = x.drawn(seed);
            due.is("promise 21: just k", x.chance(seed, 1, joy, 0), 1);
            due.is("promise 21: one more", x.chance(seed, 1, joy + 1, 0), 0);
        }
        CrystalByTheMinute y = new CrystalByTheMinute();
        y.figure(4, 0, 0);
        y.client(0, 1);
        due.is("promise 21: a BURGLAR's JOY", y.drawn(3), -4);
        due.is("promise 21: isn't 0 or more", y.chance(3, 20, 0, 0), 0);
    }

    /** "SEED and each 1 more (an int)": behind the greatest comes the least. */
    private static void promise21SeedsWrap() {
        CrystalByTheMinute x = oneByOne(5);
        for (int seed : new int[] {MAX, MAX - 1, MAX - 9, MIN, -1, 0}) {
            for (int k = 150; k <= 350; k += 50) {
                int times = 0;
                for (int i = 0; i < 7; i++) {
                    times += x.drawn(seed + i) >= k ? 1 : 0;
                }
                due.is("promise 21: chance(" + seed + ", 7, " + k + ", 0)", x.chance(seed, 7, k, 0), times == 7 ? 1 : times);
                due.is("promise 21: chance(" + seed + ", 7, " + k + ", 1)", x.chance(seed, 7, k, 1), times % 7 == 0 ? 1 : 7);
            }
        }
    }

    /** An empty world: JOY is 0 by each seed. */
    private static void promise21NobodyThere() {
        CrystalByTheMinute x = new CrystalByTheMinute();
        for (int n : new int[] {1, 2, 19, 20}) {
            due.is("promise 21: 0 or more in " + n, x.chance(5, n, 0, 0), 1);
            due.is("promise 21: 0 or more in " + n, x.chance(5, n, 0, 1), 1);
            due.is("promise 21: 1 or more in " + n, x.chance(5, n, 1, 0), 0);
            due.is("promise 21: 1 or more in " + n, x.chance(5, n, 1, 1), 1);
        }
    }

    // ---- promise 22

    /** "AN IMAGE is kept: how many FIGURES.": none to six, and nothing changes by it. */
    private static void promise22HowMany() {
        CrystalByTheMinute x = new CrystalByTheMinute();
        for (int f = 0; f <= 6; f++) {
            String before = Due.state(x);
            due.is("promise 22: image() of " + f, x.image(), f);
            due.same("promise 22: image() of " + f, Due.state(x), before);
            due.is("promise 22: back()", x.back(), f);
            x.figure(f % 6, 0, 0);
        }
    }

    // ---- promise 23

    /** "STATE: there is none." */
    private static void promise23NoneYet() {
        Edges.leaves(due, "promise 23: back() of none", Edges::empty, x -> x.back(), STATE);
        Edges.leaves(due, "promise 23: back() of none", Edges::crowded, x -> x.back(), STATE);
        Edges.leaves(due, "promise 23: back() of none", Edges::fullOfTexts, x -> x.back(), STATE);
    }

    /** "RATE, NUMBERS, MEANS, when all are UP, CLIENTS' HOURS, WISHES, how many of both there are, THE RULE": each alone. */
    private static void promise23AllThatItKeeps() {
        String was = Due.state(kept());
        for (int what = 0; what < 6; what++) {
            for (int of = 0; of < 2; of++) {
                CrystalByTheMinute x = kept();
                x.set(what, of, 1);
                x.back();
                due.same("promise 23: set(" + what + ", " + of + ", 1), back()", Due.state(x), was);
            }
        }
        CrystalByTheMinute x = kept();
        x.force(0);
        due.is("promise 23: force(0), back()", x.back(), 2);
        due.same("promise 23: force(0), back()", Due.state(x), was);
        x.figure(5, 5, 5);
        due.is("promise 23: figure(), back()", x.back(), 2);
        due.same("promise 23: those that came since go", Due.state(x), was);
        due.is("promise 23: no FIGURE 2", x.told(2, 6), BAD);
        x.client(5, 5);
        due.is("promise 23: client(), back()", x.back(), 2);
        due.same("promise 23: those that came since go", Due.state(x), was);
        due.is("promise 23: no CLIENT 2", x.told(2, 4), BAD);
        Due.sheet(x, 0, 0, 0, NONE);
        due.is("promise 23: take()", x.take(0) > 0 ? 1 : 0, 1);
        due.is("promise 23: take(), back()", x.back(), 2);
        due.same("promise 23: take(), back()", Due.state(x), was);
    }

    private static CrystalByTheMinute kept() {
        CrystalByTheMinute x = new CrystalByTheMinute();
        x.figure(0, 3, 40);
        x.figure(1, 4, 50);
        x.client(5, 3);
        x.client(4, 2);
        x.set(0, 0, 2);
        x.set(3, 0, 4094);
        x.set(3, 1, 2047);
        Due.text(x, "prices 7;joys 8;pays 9;");
        x.force(1);
        x.image();
        return x;
    }

    /** "(those that came since go)": who went is shown no more, missed by nobody, not among the fewest. */
    private static void promise23WhoWentIsShownNoMore() {
        CrystalByTheMinute x = new CrystalByTheMinute();
        // by prices of 0 nobody needs MEANS, who went as little as who is here
        x.force(Due.text(x, "prices 0;joys 10;pays 1;"));
        x.figure(0, 0, 0);
        x.figure(0, 0, 0);
        x.client(2, 5);
        x.client(2, 6);
        x.image();
        x.figure(1, 0, 0);
        due.is("promise 23: a LADY for both", x.showing(0, 0), 33);
        due.is("promise 23: few(0) of three", x.few(0), 4);
        due.is("promise 23: missed(0) of three", x.missed(0), 2);
        x.back();
        for (int how = 0; how < 3; how += 2) {
            due.is("promise 23: two, how " + how, x.showing(how, 0), 12);
            due.is("promise 23: its JOY", x.showing(how, 1), 20);
        }
        due.is("promise 23: RICHEST of two", x.showing(1, 0), 11);
        due.is("promise 23: few(0) of two", x.few(0), 3);
        due.is("promise 23: missed(0) of two", x.missed(0), 0);
        due.is("promise 23: missed(1) of two", x.missed(1), 10);
        due.is("promise 23: raise(999, 1)", x.raise(999, 1), 20);
        due.is("promise 23: change(1)", x.change(1), 20);
    }

    /** "All that it keeps": TEXTS, THE TAPE and SHEETS aren't among these, so they stay as they are. */
    private static void promise23WhatItDoesNotKeep() {
        CrystalByTheMinute x = kept();
        due.is("promise 23: a TEXT more", Due.text(x, "prices 1;joys 1;pays 1;"), 2);
        Due.feed(x, "pri");
        Due.sheet(x, 0, 2, 6, 7);
        Due.sheet(x, 1, 0, 8);
        x.back();
        due.is("promise 23: TEXTS stay", x.count(3), 3);
        due.is("promise 23: THE TAPE stays", x.count(4), 3);
        due.is("promise 23: THE TAPE stays", Due.text(x, "ces 2;joys 2;pays 2;"), 3);
        due.is("promise 23: TEXT 2 is one", x.force(2), 1);
        Edges.beginReading(x);
        due.is("promise 23: SHEETS stay", Edges.read(x, 0, 1), 7);
        due.is("promise 23: SHEETS stay", Edges.read(x, 1, 0), 8);
    }

    /** An IMAGE is there as often as one goes back; a newer one takes its place, also one of no change. */
    private static void promise23AgainAndAnew() {
        CrystalByTheMinute x = kept();
        for (int i = 0; i < 3; i++) {
            x.set(2, 0, 100 + i);
            due.is("promise 23: back()", x.back(), 2);
            due.is("promise 23: MEANS", x.told(0, 2), 40);
        }
        x.set(2, 0, 7);
        due.is("promise 23: image()", x.image(), 2);
        x.set(2, 0, 8);
        due.is("promise 23: back()", x.back(), 2);
        due.is("promise 23: MEANS of the newer one", x.told(0, 2), 7);
        due.is("promise 23: back() at once", x.back(), 2);
        due.is("promise 23: MEANS of the newer one", x.told(0, 2), 7);
    }

    /** An IMAGE of nobody is one. */
    private static void promise23OfNobody() {
        CrystalByTheMinute x = new CrystalByTheMinute();
        due.is("promise 23: image() of nobody", x.image(), 0);
        x.set(0, 0, 9);
        for (int i = 0; i < 6; i++) {
            x.figure(i, 9, 999);
            x.client(i, 63);
        }
        due.is("promise 23: back() to nobody", x.back(), 0);
        due.same("promise 23: as new", Due.state(x), Due.state(new CrystalByTheMinute()));
        due.is("promise 23: six came before, six may come again", x.figure(1, 1, 1), 0);
        due.is("promise 23: of its own KIND", x.told(0, 6), 1);
        due.is("promise 23: UP in all HOURS", x.told(0, 3), 4095);
    }

    /** Of all places taken, and none. */
    private static void promise23Full() {
        CrystalByTheMinute x = Edges.crowded();
        String was = Due.state(x);
        due.is("promise 23: image() of six", x.image(), 6);
        for (int i = 0; i < 6; i++) {
            x.set(2, i, 1);
            x.set(1, i, 0);
            x.set(3, i, 1);
            x.set(4, i, 0);
            x.set(5, i, 0);
        }
        due.is("promise 23: back() to six", x.back(), 6);
        due.same("promise 23: all six, all five", Due.state(x), was);
        due.is("promise 23: no place more", x.figure(0, 0, 0), Edges.FULL);
        due.is("promise 23: no place more", x.client(0, 0), Edges.FULL);
    }

    // ---- promise 24

    /** "BAD." */
    private static void promise24Refused() {
        for (int what : new int[] {-1, 6, 7, MIN, MAX}) {
            Edges.leaves(due, "promise 24: count(" + what + ")", Edges::small, x -> x.count(what), BAD);
            due.is("promise 24: count(" + what + ") of none", Edges.empty().count(what), BAD);
        }
        int[] wants = {2, 2, 61, 2, 8, 1};
        for (int what = 0; what < 6; what++) {
            int w = what;
            Edges.leaves(due, "promise 24: count(" + w + ")", Edges::small, x -> x.count(w), wants[w]);
        }
    }

    /** "How many": least and most of each. */
    private static void promise24LeastAndMost() {
        int[] least = {0, 0, 0, 1, 0, 0};
        CrystalByTheMinute x = new CrystalByTheMinute();
        for (int what = 0; what < 6; what++) {
            due.is("promise 24: count(" + what + ") at first", x.count(what), least[what]);
        }
        for (int i = 0; i < 6; i++) {
            x.figure(0, 0, 999);
            x.client(0, 0);
            Due.text(x, "prices 1;joys 1;pays 1;");
        }
        x.force(5);
        Due.feed(x, " ".repeat(160));
        int[] most = {6, 5, 5994, 6, 160, 5};
        for (int what = 0; what < 6; what++) {
            due.is("promise 24: count(" + what + ") at most", x.count(what), most[what]);
        }
    }
}
