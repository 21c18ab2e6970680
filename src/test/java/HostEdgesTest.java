/** Boundary cases of promises 25 to 29, sentence by sentence; each test stands below the words that it holds to. */
final class HostEdgesTest {
    private static final Due due = new Due("HostEdgesTest");
    private static final int NONE = Edges.NONE, BAD = Edges.BAD, NOTHING = Edges.NOTHING, OUTSIDE = Edges.OUTSIDE;
    private static final int OTHER = Edges.OTHER, BELOW = Edges.BELOW, MAX = Edges.MAX, MIN = Edges.MIN;
    private static final int BEYOND = -2;

    public static void main(String[] args) {
        promise25Order();
        promise25NoneToForty();
        promise25SortMinusOne();
        promise25AllZero();
        promise26Order();
        promise26FirstAndLast();
        promise26ASheetOfNothing();
        promise26LowestBits();
        promise26WholeInts();
        promise27Order();
        promise27OneOfTwo();
        promise27PlacesOutside();
        promise27NoneAtAll();
        promise27OntoItself();
        promise27AsTheyWere();
        promise28Order();
        promise28TakenForOneOfASort();
        promise28NoneToSix();
        promise28FirstAndLastPlace();
        promise28OthersAreLeftOut();
        promise28WhatStoodAheadCame();
        promise29Order();
        promise29NothingThereYet();
        promise29AllKinds();
        promise29ItsNumber();
        due.end();
    }

    // ---- promise 25

    /** "BAD: no such SHEET, sort; n above 40; -14." */
    private static void promise25Order() {
        for (int sheet : new int[] {-1, 4, MIN, MAX}) {
            Edges.leaves(due, "promise 25: sheet(" + sheet + ", 0, 1)", Edges::small, x -> x.sheet(sheet, 0, 1), BAD);
            Edges.leaves(due, "promise 25: sheet(" + sheet + ", -1, 0)", Edges::small, x -> x.sheet(sheet, -1, 0), BAD);
            // BAD decides, ahead of -14
            Edges.leaves(due, "promise 25: sheet(" + sheet + ", 0, -1)", Edges::small, x -> x.sheet(sheet, 0, -1), BAD);
        }
        for (int sort : new int[] {-2, 3, MIN, MAX}) {
            Edges.leaves(due, "promise 25: sheet(0, " + sort + ", 1)", Edges::small, x -> x.sheet(0, sort, 1), BAD);
            // BAD decides, ahead of -14
            Edges.leaves(due, "promise 25: sheet(0, " + sort + ", -1)", Edges::small, x -> x.sheet(0, sort, -1), BAD);
        }
        for (int sort = 0; sort < 3; sort++) {
            int t = sort;
            for (int n : new int[] {41, 42, MAX}) {
                Edges.leaves(due, "promise 25: sheet(0, " + t + ", " + n + ")", Edges::small, x -> x.sheet(0, t, n), BAD);
            }
            for (int n : new int[] {-1, -40, MIN}) {
                Edges.leaves(due, "promise 25: sheet(0, " + t + ", " + n + ")", Edges::small, x -> x.sheet(0, t, n), BELOW);
                Edges.leaves(due, "promise 25: sheet(3, " + t + ", " + n + ")", Edges::small, x -> x.sheet(3, t, n), BELOW);
            }
        }
    }

    /** "A SHEET becomes a row of n of a sort": each sheet, each sort, 0 and 40. */
    private static void promise25NoneToForty() {
        for (int sheet = 0; sheet < 4; sheet++) {
            for (int sort = 0; sort < 3; sort++) {
                CrystalByTheMinute x = new CrystalByTheMinute();
                for (int n : new int[] {0, 1, 39, 40, 0}) {
                    String call = "promise 25: sheet(" + sheet + ", " + sort + ", " + n + ")";
                    due.is(call, x.sheet(sheet, sort, n), 1);
                    due.is(call + ", size", Edges.size(x, sheet), n);
                    due.is(call + ", sort", Edges.sort(x, sheet), sort);
                    due.is(call + ", the item behind", x.cell(sheet, n, 1), OUTSIDE);
                }
                for (int other = 0; other < 4; other++) {
                    due.is("promise 25: the others are missing", x.cell(other, 0, 0), other == sheet ? OUTSIDE : NOTHING);
                }
            }
        }
    }

    /** "or missing (sort -1: n does not matter): 1." */
    private static void promise25SortMinusOne() {
        for (int n : new int[] {0, 1, 40, 41, -1, MIN, MAX}) {
            CrystalByTheMinute x = Edges.small();
            // "n does not matter" decides, of n above 40 and of n below 0
            due.is("promise 25: sheet(2, -1, " + n + ")", x.sheet(2, -1, n), 1);
            due.is("promise 25: missing", x.cell(2, 0, 0), NOTHING);
            due.is("promise 25: sheet(2, -1, " + n + ") again", x.sheet(2, -1, n), 1);
            due.is("promise 25: missing still", x.cell(2, 0, 0), NOTHING);
            due.is("promise 25: the others stay", Edges.size(x, 1), 3);
        }
    }

    /** "all 0": also where other numbers stood, in whatever sort. */
    private static void promise25AllZero() {
        for (int before = 0; before < 3; before++) {
            for (int sort = 0; sort < 3; sort++) {
                for (int way = 0; way < 2; way++) {
                    CrystalByTheMinute x = new CrystalByTheMinute();
                    Due.sheet(x, 0, before, 1, 2, 3, 4);
                    if (way == 1) {
                        x.sheet(0, -1, 0);
                        x.sheet(0, sort, 1);
                    }
                    x.sheet(0, sort, 4);
                    Edges.beginReading(x);
                    for (int i = 0; i < 4; i++) {
                        due.is("promise 25: sort " + before + ", then " + sort + ", item " + i, Edges.read(x, 0, i), 0);
                    }
                }
            }
        }
    }

    // ---- promise 26

    private static CrystalByTheMinute fiveCells() {
        CrystalByTheMinute x = Edges.small();
        Due.sheet(x, 0, 2, 1, 2, 3, 4, 5);
        return x;
    }

    /** "BAD: no such SHEET; -11; -12." */
    private static void promise26Order() {
        for (int sheet : new int[] {-1, 4, MIN, MAX}) {
            Edges.leaves(due, "promise 26: cell(" + sheet + ", 0, 1)", Edges::small, x -> x.cell(sheet, 0, 1), BAD);
            Edges.leaves(due, "promise 26: cell(" + sheet + ", -1, 1)", Edges::small, x -> x.cell(sheet, -1, 1), BAD);
        }
        for (int i : new int[] {0, -1, 40, MIN, MAX}) {
            // -11 decides, ahead of -12: what is missing has no place at all
            Edges.leaves(due, "promise 26: cell(3, " + i + ", 1)", Edges::small, x -> x.cell(3, i, 1), NOTHING);
        }
        for (int i : new int[] {-1, 5, 6, 40, MIN, MAX}) {
            Edges.leaves(due, "promise 26: cell(0, " + i + ", 9)", HostEdgesTest::fiveCells, x -> x.cell(0, i, 9), OUTSIDE);
        }
    }

    /** "Item i of a SHEET becomes v": the first, the last; no other one. */
    private static void promise26FirstAndLast() {
        for (int sort = 0; sort < 3; sort++) {
            for (int n : new int[] {1, 2, 40}) {
                for (int at : new int[] {0, n - 1}) {
                    CrystalByTheMinute x = new CrystalByTheMinute();
                    x.sheet(0, sort, n);
                    due.is("promise 26: item " + at + " of " + n, x.cell(0, at, 98), 1);
                    Edges.beginReading(x);
                    for (int i = 0; i < n; i++) {
                        due.is("promise 26: item " + i + " of " + n, Edges.read(x, 0, i), i == at ? 98 : 0);
                    }
                }
            }
        }
    }

    /** A sheet that is there but holds nothing: -12, not -11. */
    private static void promise26ASheetOfNothing() {
        for (int sort = 0; sort < 3; sort++) {
            CrystalByTheMinute x = new CrystalByTheMinute();
            x.sheet(0, sort, 0);
            for (int i : new int[] {-1, 0, 1}) {
                due.is("promise 26: cell(0, " + i + ", 0) of none", x.cell(0, i, 0), OUTSIDE);
            }
        }
    }

    /** What a cell is then: 0 .. 98, NONE (it shows fog), or any other number (BEYOND). */
    private static void narrowed(int sort, int v, int want) {
        CrystalByTheMinute x = new CrystalByTheMinute();
        x.sheet(0, sort, 1);
        due.is("promise 26: cell(0, 0, " + v + ")", x.cell(0, 0, v), 1);
        Edges.beginReading(x);
        due.is("promise 26: " + v + " in sort " + sort, Edges.read(x, 0, 0), Math.max(want, NONE));
        CrystalByTheMinute nobody = new CrystalByTheMinute();
        nobody.client(0, 0);
        Due.sheet(nobody, 0, sort, v);
        due.is("promise 26: " + v + " in sort " + sort + " is fog", nobody.show(0, 0), want == NONE ? NONE : Edges.NO_ANSWER);
    }

    /** "(of bytes, shorts its lowest 8, 16 bits)" */
    private static void promise26LowestBits() {
        int[][] bytes = {{98, 98}, {256, 0}, {257, 1}, {256 + 98, 98}, {-256, 0}, {-255, 1}, {-158, 98}, {65536 + 7, 7},
            {MIN, 0}, {MIN + 9, 9}, {-1, NONE}, {255, NONE}, {511, NONE}, {65535, NONE}, {MAX, NONE},
            {127, BEYOND}, {128, BEYOND}, {-128, BEYOND}, {254, BEYOND}, {MAX - 1, BEYOND}};
        for (int[] b : bytes) {
            narrowed(0, b[0], b[1]);
        }
        int[][] shorts = {{98, 98}, {65536, 0}, {65537, 1}, {65536 + 98, 98}, {-65536, 0}, {-65535, 1}, {-65438, 98}, {1 << 20, 0},
            {MIN, 0}, {MIN + 9, 9}, {-1, NONE}, {65535, NONE}, {131071, NONE}, {MAX, NONE},
            {255, BEYOND}, {256, BEYOND}, {-256, BEYOND}, {32767, BEYOND}, {32768, BEYOND}, {-32768, BEYOND}, {65534, BEYOND}};
        for (int[] s : shorts) {
            narrowed(1, s[0], s[1]);
        }
        int[][] ints = {{98, 98}, {-1, NONE}, {255, BEYOND}, {256, BEYOND}, {-256, BEYOND}, {65535, BEYOND}, {65536, BEYOND},
            {-65536, BEYOND}, {MIN, BEYOND}, {MIN + 9, BEYOND}, {MAX, BEYOND}};
        for (int[] i : ints) {
            narrowed(2, i[0], i[1]);
        }
    }

    /** A byte holds 127, a short 999; an int all of it. */
    private static void promise26WholeInts() {
        CrystalByTheMinute x = new CrystalByTheMinute();
        x.figure(3, 1, 0);
        x.force(Due.text(x, "prices 63;joys 0;pays 0;"));
        Due.sheet(x, 0, 0, 127);
        due.is("promise 26: a byte of 127", x.tells(0, 0, 0), NONE);
        x.set(1, 0, 2);
        x.cell(0, 0, 128);
        due.is("promise 26: no byte of 128", x.tells(0, 0, 0), 0);
        x.set(0, 0, 9);
        for (int sort = 1; sort < 3; sort++) {
            Due.sheet(x, sort, sort, 999);
            due.is("promise 26: 999", x.tells(sort, 0, 0), NONE);
            x.cell(sort, 0, 65536 + 999);
            due.is("promise 26: 65536 more", x.tells(sort, 0, 0), sort == 1 ? NONE : 0);
        }
    }

    // ---- promise 27

    /** Sheets 0 and 1 of ints, of 5 and 3; 2 of bytes; 3 missing. */
    private static CrystalByTheMinute rows() {
        CrystalByTheMinute x = Edges.small();
        Due.sheet(x, 0, 2, 11, 12, 13, 14, 15);
        Due.sheet(x, 1, 2, 21, 22, 23);
        Due.sheet(x, 2, 0, 31, 32, 33);
        return x;
    }

    private static void refuses(int sheet, int i, int other, int j, int n, int want) {
        String call = "promise 27: copy(" + sheet + ", " + i + ", " + other + ", " + j + ", " + n + ")";
        Edges.leaves(due, call, HostEdgesTest::rows, x -> x.copy(sheet, i, other, j, n), want);
    }

    /** "BAD: no such SHEET; -11; -13: they are of unlike sorts; -12 (also with n below 0)." */
    private static void promise27Order() {
        for (int bad : new int[] {-1, 4, MIN, MAX}) {
            refuses(bad, 0, 1, 0, 1, BAD);
            refuses(0, 0, bad, 0, 1, BAD);
            refuses(bad, 0, bad, 0, 1, BAD);
            // BAD decides, ahead of -11: the other one is missing
            refuses(bad, 0, 3, 0, 1, BAD);
            refuses(3, 0, bad, 0, 1, BAD);
            // and ahead of -12
            refuses(bad, -1, 1, 0, -1, BAD);
        }
        refuses(3, 0, 1, 0, 1, NOTHING);
        refuses(0, 0, 3, 0, 1, NOTHING);
        refuses(3, 0, 3, 0, 1, NOTHING);
        refuses(3, 0, 3, 0, 0, NOTHING);
        // -11 decides, ahead of -12
        refuses(3, -1, 0, 0, 1, NOTHING);
        refuses(0, 0, 3, 0, -1, NOTHING);
        refuses(0, 0, 2, 0, 1, OTHER);
        refuses(2, 0, 0, 0, 1, OTHER);
        refuses(0, 0, 2, 0, 0, OTHER);
        // -13 decides, ahead of -12
        refuses(0, -1, 2, 0, 1, OTHER);
        refuses(0, 0, 2, 9, 1, OTHER);
        refuses(0, 0, 2, 0, -1, OTHER);
        refuses(0, 0, 1, 0, -1, OUTSIDE);
    }

    /** Each of the three sorts is unlike the two others, and like itself. */
    private static void promise27OneOfTwo() {
        for (int a = 0; a < 3; a++) {
            for (int b = 0; b < 3; b++) {
                CrystalByTheMinute x = new CrystalByTheMinute();
                x.sheet(0, a, 1);
                x.sheet(3, b, 1);
                due.is("promise 27: sort " + a + " to sort " + b, x.copy(0, 0, 3, 0, 1), a == b ? 1 : OTHER);
            }
        }
    }

    /** "-12": on both sides of both sheets; sums that go beyond an int. */
    private static void promise27PlacesOutside() {
        for (int n : new int[] {-1, -5, MIN, MAX, 4, 6}) {
            refuses(0, 0, 1, 0, n, OUTSIDE);
        }
        for (int i : new int[] {-1, 5, 6, MIN, MAX}) {
            refuses(0, i, 1, 0, 1, OUTSIDE);
        }
        for (int j : new int[] {-1, 3, 4, MIN, MAX}) {
            refuses(0, 0, 1, j, 1, OUTSIDE);
        }
        refuses(0, 3, 1, 0, 3, OUTSIDE);
        refuses(0, 0, 1, 1, 3, OUTSIDE);
        refuses(1, 0, 0, 0, 4, OUTSIDE);
        refuses(1, 0, 0, 3, 3, OUTSIDE);
        refuses(0, 1, 1, 1, MAX, OUTSIDE);
        refuses(0, MAX, 1, MAX, MAX, OUTSIDE);
        refuses(0, MIN, 1, MIN, MIN, OUTSIDE);
        CrystalByTheMinute x = rows();
        due.is("promise 27: the last three", x.copy(0, 2, 1, 0, 3), 3);
        due.is("promise 27: the last three", x.copy(1, 0, 0, 2, 3), 3);
        due.is("promise 27: the last one", x.copy(0, 4, 1, 2, 1), 1);
    }

    /** n 0 is not below 0: places up to the end of both, none beyond; also of sheets that hold nothing. */
    private static void promise27NoneAtAll() {
        for (int i = -1; i <= 6; i++) {
            for (int j = -1; j <= 4; j++) {
                int want = i >= 0 && i <= 5 && j >= 0 && j <= 3 ? 0 : OUTSIDE;
                due.is("promise 27: none from " + i + " to " + j, rows().copy(0, i, 1, j, 0), want);
            }
        }
        refuses(0, 5, 1, 3, 0, 0);
        CrystalByTheMinute x = new CrystalByTheMinute();
        x.sheet(0, 1, 0);
        x.sheet(1, 1, 0);
        due.is("promise 27: none of none", x.copy(0, 0, 1, 0, 0), 0);
        due.is("promise 27: one of none", x.copy(0, 0, 1, 0, 1), OUTSIDE);
        due.is("promise 27: none of none, from 1", x.copy(0, 1, 1, 0, 0), OUTSIDE);
        due.is("promise 27: below none of none", x.copy(0, 0, 1, 0, -1), OUTSIDE);
    }

    /** "(as they were)": onto itself, up and down, by one and by more; a whole row onto itself. */
    private static void promise27OntoItself() {
        for (int sort = 0; sort < 3; sort++) {
            for (int i = 0; i <= 5; i++) {
                for (int j = 0; j <= 5; j++) {
                    int n = 5 - Math.max(i, j);
                    int[] row = {11, 12, 13, 14, 15};
                    CrystalByTheMinute x = new CrystalByTheMinute();
                    Due.sheet(x, 1, sort, row);
                    String call = "promise 27: copy(1, " + i + ", 1, " + j + ", " + n + ")";
                    due.is(call, x.copy(1, i, 1, j, n), n);
                    due.is(call + ", one more", x.copy(1, i, 1, j, n + 1), OUTSIDE);
                    System.arraycopy(row.clone(), i, row, j, n);
                    Edges.beginReading(x);
                    for (int c = 0; c < 5; c++) {
                        due.is(call + ", item " + c, Edges.read(x, 1, c), row[c]);
                    }
                }
            }
        }
    }

    /** "n numbers of a SHEET, from item i on, come to another one's item j on": all 40; and the first sheet stays. */
    private static void promise27AsTheyWere() {
        CrystalByTheMinute x = new CrystalByTheMinute();
        x.sheet(0, 0, 40);
        x.sheet(1, 0, 40);
        for (int i = 0; i < 40; i++) {
            x.cell(0, i, i + 1);
        }
        due.is("promise 27: 41", x.copy(0, 0, 1, 0, 41), OUTSIDE);
        due.is("promise 27: 40", x.copy(0, 0, 1, 0, 40), 40);
        Edges.beginReading(x);
        for (int i = 0; i < 40; i++) {
            due.is("promise 27: item " + i, Edges.read(x, 1, i), i + 1);
        }
        due.is("promise 27: the first sheet stays", Edges.read(x, 0, 39), 40);
        CrystalByTheMinute y = rows();
        due.is("promise 27: two", y.copy(0, 3, 1, 0, 2), 2);
        Edges.beginReading(y);
        due.is("promise 27: item 0", Edges.read(y, 1, 0), 14);
        due.is("promise 27: item 1", Edges.read(y, 1, 1), 15);
        due.is("promise 27: item 2", Edges.read(y, 1, 2), 23);
        due.is("promise 27: the first sheet stays", Edges.read(y, 0, 3), 14);
    }

    // ---- promise 28

    private static void comes(int sheet, int sort, int from, int n, int want) {
        String call = "promise 28: figures(" + sheet + ", " + sort + ", " + from + ", " + n + ")";
        Edges.leaves(due, call, HostEdgesTest::rows, x -> x.figures(sheet, sort, from, n), want);
    }

    /** "BAD: no such SHEET, sort, n; -13; -11; -12" */
    private static void promise28Order() {
        for (int bad : new int[] {-1, 4, MIN, MAX}) {
            comes(bad, 2, 0, 1, BAD);
            comes(bad, 2, -1, 1, BAD);
        }
        for (int bad : new int[] {-1, 3, MIN, MAX}) {
            comes(0, bad, 0, 1, BAD);
            // BAD decides, ahead of -11 and of -12
            comes(3, bad, 0, 1, BAD);
            comes(0, bad, -1, 1, BAD);
        }
        for (int bad : new int[] {-1, 7, MIN, MAX}) {
            comes(0, 2, 0, bad, BAD);
            // BAD decides, ahead of -13, of -11 and of -12
            comes(0, 1, 0, bad, BAD);
            comes(3, 0, 0, bad, BAD);
            comes(0, 2, -1, bad, BAD);
        }
        comes(0, 0, 0, 1, OTHER);
        // -13 decides, ahead of -12, though no FIGURE is asked, though no item is there
        comes(0, 0, -1, 1, OTHER);
        comes(0, 1, 0, 0, OTHER);
        comes(2, 2, 99, 6, OTHER);
        for (int sort = 0; sort < 3; sort++) {
            // what is missing is of no other sort: -11 decides; ahead of -12, though no FIGURE is asked
            comes(3, sort, 0, 1, NOTHING);
            comes(3, sort, -1, 1, NOTHING);
            comes(3, sort, 0, 0, NOTHING);
        }
        comes(0, 2, -1, 1, OUTSIDE);
    }

    /** "a SHEET that is taken for one of a sort": each for each. */
    private static void promise28TakenForOneOfASort() {
        for (int sort = 0; sort < 3; sort++) {
            for (int as = 0; as < 3; as++) {
                CrystalByTheMinute x = new CrystalByTheMinute();
                x.sheet(0, sort, 3);
                due.is("promise 28: sort " + sort + " taken for " + as, x.figures(0, as, 0, 1), sort == as ? 1 : OTHER);
                due.is("promise 28: how many", x.count(0), sort == as ? 1 : 0);
                x.sheet(1, sort, 0);
                due.is("promise 28: of none, sort " + sort + " taken for " + as, x.figures(1, as, 0, 0), sort == as ? 0 : OTHER);
            }
        }
    }

    /** "n of them (0 .. 6): how many came" */
    private static void promise28NoneToSix() {
        for (int n = 0; n <= 6; n++) {
            CrystalByTheMinute x = new CrystalByTheMinute();
            x.sheet(0, 2, 18);
            for (int f = 0; f < 6; f++) {
                x.cell(0, 3 * f, 5 - f);
                x.cell(0, 3 * f + 1, f + 4);
                x.cell(0, 3 * f + 2, 999 - f);
            }
            due.is("promise 28: " + n + " of six", x.figures(0, 2, 0, n), n);
            due.is("promise 28: how many", x.count(0), n);
            for (int f = 0; f < n; f++) {
                due.is("promise 28: KIND", x.told(f, 6), 5 - f);
                due.is("promise 28: NUMBER", x.told(f, 1), f + 4);
                due.is("promise 28: MEANS", x.told(f, 2), 999 - f);
                due.is("promise 28: UP", x.told(f, 3), 4095);
            }
        }
        // nothing is looked at where none is asked: no place is outside
        for (int from : new int[] {-1, 0, 5, 6, 99, MIN, MAX}) {
            comes(0, 2, from, 0, 0);
        }
    }

    /** "from one on, three by three": the first and the last place of an item, and those beside them. */
    private static void promise28FirstAndLastPlace() {
        for (int size = 0; size <= 8; size++) {
            for (int from = -3; from <= size + 1; from++) {
                CrystalByTheMinute x = new CrystalByTheMinute();
                x.sheet(0, 1, size);
                int most = from < 0 ? 0 : Math.max(0, (size - from) / 3);
                for (int n = 1; n <= 3; n++) {
                    int before = x.count(0);
                    String call = "promise 28: figures(0, 1, " + from + ", " + n + ") of " + size;
                    int room = Math.min(Math.min(n, most), 6 - before);
                    due.is(call, x.figures(0, 1, from, n), n > most ? OUTSIDE : room);
                    due.is(call + ", how many", x.count(0), before + room);
                }
            }
        }
        for (int from : new int[] {MIN, MIN + 1, MAX, MAX - 1, MAX - 17, -18, 40}) {
            comes(0, 2, from, 1, OUTSIDE);
            comes(0, 2, from, 6, OUTSIDE);
        }
        CrystalByTheMinute x = new CrystalByTheMinute();
        Due.sheet(x, 0, 0, 9, 9, 4, 7, 99);
        due.is("promise 28: from item 2 on", x.figures(0, 0, 2, 1), 1);
        due.is("promise 28: KIND", x.told(0, 6), 4);
        due.is("promise 28: NUMBER", x.told(0, 1), 7);
        due.is("promise 28: MEANS", x.told(0, 2), 99);
    }

    /** "(others are left out)": those that figure() would call BAD, and those it would call FULL. */
    private static void promise28OthersAreLeftOut() {
        int[][] bad = {{-1, 0, 0}, {6, 0, 0}, {0, -1, 0}, {0, 10, 0}, {0, 0, -1}, {0, 0, 1000}};
        for (int[] b : bad) {
            CrystalByTheMinute x = new CrystalByTheMinute();
            Due.sheet(x, 0, 2, 1, 1, 1, b[0], b[1], b[2], 5, 9, 999);
            due.is("promise 28: the midst one is left out", x.figures(0, 2, 0, 3), 2);
            due.is("promise 28: how many", x.count(0), 2);
            due.is("promise 28: the last one", x.told(1, 6), 5);
            Due.sheet(x, 0, 2, b);
            due.is("promise 28: all are left out", x.figures(0, 2, 0, 1), 0);
            // -12 decides: a place outside is not left out, whatever stands ahead in its three
            Due.sheet(x, 0, 2, b[0], b[1]);
            due.is("promise 28: two of three", x.figures(0, 2, 0, 1), OUTSIDE);
        }
        CrystalByTheMinute x = Edges.crowded();
        x.sheet(0, 2, 18);
        String before = Due.state(x);
        due.is("promise 28: no room for six", x.figures(0, 2, 0, 6), 0);
        // -12 decides, though no place for a FIGURE is left
        due.is("promise 28: outside, and no room", x.figures(0, 2, 16, 1), OUTSIDE);
        due.is("promise 28: outside, and no room", x.figures(0, 2, 3, 6), OUTSIDE);
        due.same("promise 28: no room", Due.state(x), before);
        CrystalByTheMinute y = new CrystalByTheMinute();
        for (int f = 0; f < 4; f++) {
            y.figure(0, 0, 0);
        }
        Due.sheet(y, 0, 2, 1, 1, 1, 9, 9, 9, 2, 2, 2, 3, 3, 3, 9, 9, 9, 4, 4, 4);
        due.is("promise 28: room for two of four", y.figures(0, 2, 0, 6), 2);
        due.is("promise 28: the sixth", y.told(5, 6), 2);
    }

    /** "-12: what stood ahead came.": here a refused call does change something; this sentence decides, not that of Terms. */
    private static void promise28WhatStoodAheadCame() {
        for (int size = 3; size <= 17; size++) {
            CrystalByTheMinute x = new CrystalByTheMinute();
            x.sheet(0, 2, size);
            x.cell(0, 0, 9);
            x.cell(0, 2, 1);
            due.is("promise 28: six of " + size + " items", x.figures(0, 2, 0, 6), OUTSIDE);
            due.is("promise 28: what stood ahead, the first left out", x.count(0), size / 3 - 1);
        }
        CrystalByTheMinute x = Edges.small();
        Due.sheet(x, 0, 0, 2, 3, 4, 5);
        due.is("promise 28: two of four items", x.figures(0, 0, 0, 2), OUTSIDE);
        CrystalByTheMinute y = Edges.small();
        Due.sheet(y, 0, 0, 2, 3, 4, 5);
        due.is("promise 28: by figure()", y.figure(2, 3, 4), 2);
        due.same("promise 28: as by figure(), and nothing else", Edges.everything(x), Edges.everything(y));
    }

    // ---- promise 29

    /** "BAD: k; -11: no such FIGURE; -13." */
    private static void promise29Order() {
        for (int k : new int[] {-1, 6, MIN, MAX}) {
            Edges.leaves(due, "promise 29: taken(0, " + k + ")", Edges::small, x -> x.taken(0, k), BAD);
            // BAD decides, ahead of -11
            Edges.leaves(due, "promise 29: taken(2, " + k + ")", Edges::small, x -> x.taken(2, k), BAD);
            due.is("promise 29: taken(-1, " + k + ")", Edges.empty().taken(-1, k), BAD);
        }
        for (int figure : new int[] {-1, 2, 5, 6, MIN, MAX}) {
            for (int k = 0; k < 6; k++) {
                int kind = k;
                Edges.leaves(due, "promise 29: taken(" + figure + ", " + k + ")", Edges::small, x -> x.taken(figure, kind), NOTHING);
            }
        }
        Edges.leaves(due, "promise 29: taken(0, 1)", Edges::small, x -> x.taken(0, 1), OTHER);
        Edges.leaves(due, "promise 29: taken(1, 0)", Edges::small, x -> x.taken(1, 0), 4);
    }

    private static void promise29NothingThereYet() {
        for (int k = 0; k < 6; k++) {
            due.is("promise 29: taken(0, " + k + ") of none", Edges.empty().taken(0, k), NOTHING);
        }
    }

    /** "A FIGURE taken for one of KIND k .., or one under that one (also by others between)": each for each. */
    private static void promise29AllKinds() {
        String[] above = {"0", "0 1", "0 2", "0 1 3", "0 2 4", "0 5"};
        for (int kind = 0; kind < 6; kind++) {
            CrystalByTheMinute x = new CrystalByTheMinute();
            x.figure(kind, 7, 0);
            for (int k = 0; k < 6; k++) {
                due.is("promise 29: KIND " + kind + " taken for " + k, x.taken(0, k), above[kind].indexOf('0' + k) >= 0 ? 7 : OTHER);
            }
        }
    }

    /** "its NUMBER": 0 and 9, and as it is set. */
    private static void promise29ItsNumber() {
        CrystalByTheMinute x = new CrystalByTheMinute();
        x.figure(4, 0, 0);
        due.is("promise 29: NUMBER 0", x.taken(0, 0), 0);
        x.set(1, 0, 9);
        due.is("promise 29: NUMBER 9", x.taken(0, 2), 9);
        due.is("promise 29: still no LADY", x.taken(0, 1), OTHER);
        CrystalByTheMinute y = Edges.crowded();
        due.is("promise 29: the last of six", y.taken(5, 5), 6);
        due.is("promise 29: the last of six", y.taken(5, 0), 6);
    }
}
