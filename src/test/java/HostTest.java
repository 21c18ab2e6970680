/** Promises 25 to 29: sheet, cell, copy, figures, taken. */
final class HostTest {
    private static final Due due = new Due("HostTest");
    private static final int BAD = -2, NOTHING = -11, OUTSIDE = -12, OTHER = -13, BELOW = -14;
    private static final int MAX = Integer.MAX_VALUE, MIN = Integer.MIN_VALUE;

    public static void main(String[] args) {
        sheets();
        cells();
        narrowCells();
        copies();
        copiesRefused();
        figures();
        figuresWithoutRoom();
        figuresRefused();
        taken();
        due.end();
    }

    private static void sheets() {
        CrystalByTheMinute x = new CrystalByTheMinute();
        due.is("sheet -1", x.sheet(-1, 0, 1), BAD);
        due.is("sheet 4", x.sheet(4, 0, 1), BAD);
        due.is("sort 3", x.sheet(0, 3, 1), BAD);
        due.is("sort -2", x.sheet(0, -2, 1), BAD);
        due.is("n 41", x.sheet(0, 0, 41), BAD);
        due.is("n max", x.sheet(0, 0, MAX), BAD);
        due.is("n -1", x.sheet(0, 0, -1), BELOW);
        due.is("n min", x.sheet(0, 0, MIN), BELOW);
        due.is("BAD ahead of -14", x.sheet(0, 3, -1), BAD);
        due.is("missing still", x.cell(0, 0, 0), NOTHING);
        for (int s = 0; s < 4; s++) {
            due.is("of 40", x.sheet(s, s % 3, 40), 1);
            due.is("the last", x.cell(s, 39, 1), 1);
            due.is("none behind", x.cell(s, 40, 1), OUTSIDE);
        }
        due.is("refused", x.sheet(0, 0, -1), BELOW);
        due.is("it stays", x.cell(0, 39, 1), 1);
        due.is("missing, whatever n", x.sheet(0, -1, -7), 1);
        due.is("missing", x.cell(0, 0, 1), NOTHING);
        due.is("missing, whatever n", x.sheet(1, -1, 41), 1);
        due.is("missing", x.cell(1, 0, 1), NOTHING);
    }

    private static void cells() {
        CrystalByTheMinute x = new CrystalByTheMinute();
        x.figure(0, 0, 0);
        due.is("sheet -1", x.cell(-1, 0, 0), BAD);
        due.is("sheet 4", x.cell(4, 0, 0), BAD);
        due.is("missing ahead of outside", x.cell(0, -1, 0), NOTHING);
        x.sheet(0, 2, 2);
        due.is("outside", x.cell(0, -1, 0), OUTSIDE);
        due.is("outside", x.cell(0, 2, 0), OUTSIDE);
        due.is("outside", x.cell(0, MAX, 0), OUTSIDE);
        due.is("outside", x.cell(0, MIN, 0), OUTSIDE);
        due.is("all 0", x.tells(0, 0, 1), 1 << 4);
        due.is("cell", x.cell(0, 0, 5), 1);
        due.is("cell", x.cell(0, 1, 5), 1);
        due.is("as put", x.tells(0, 0, 0), -1);
        x.sheet(0, 2, 2);
        due.is("all 0 again", x.tells(0, 0, 1), 1 << 4);
    }

    /** A figure costs 5: what a cell of each sort makes of numbers whose lowest bits are 5. */
    private static void narrowCells() {
        CrystalByTheMinute x = new CrystalByTheMinute();
        x.figure(0, 0, 0);
        int[] bits = {8, 16, 31};
        for (int sort = 0; sort < 3; sort++) {
            x.sheet(sort, sort, 1);
            for (int b = 8; b < 32; b++) {
                x.cell(sort, 0, (1 << b) + 5);
                due.is("sort " + sort + " bit " + b, x.tells(sort, 0, 0), sort < 2 && b >= bits[sort] ? -1 : 0);
            }
        }
        x.client(0, 0);
        x.cell(0, 0, 255);
        due.is("a byte of 255 is -1: fog", x.show(0, 0), -1);
        x.cell(1, 0, 65535);
        due.is("a short of 65535 is -1: fog", x.show(1, 0), -1);
        x.cell(1, 0, 255);
        due.is("a short of 255 is not", x.show(1, 0), -100000);
    }

    /** The first n items of a sheet of ints, each told by rates: 5 times the rate that it is. */
    private static String rates(CrystalByTheMinute x, int sheet, int n) {
        StringBuilder b = new StringBuilder();
        for (int i = 0; i < n; i++) {
            x.sheet(3, 2, 1);
            x.copy(sheet, i, 3, 0, 1);
            b.append(Integer.numberOfTrailingZeros(x.tells(3, 0, 3)));
        }
        return b.toString();
    }

    private static void copies() {
        CrystalByTheMinute x = new CrystalByTheMinute();
        x.figure(0, 0, 0);
        Due.sheet(x, 0, 2, 5, 10, 15, 20, 25, 30);
        Due.sheet(x, 1, 2, 45, 45, 45, 45, 45, 45, 45);
        due.is("copy", x.copy(0, 1, 1, 3, 2), 2);
        due.is("copied", rates(x, 1, 7).equals("9992399") ? 1 : 0, 1);
        due.is("none, at the end", x.copy(0, 6, 1, 7, 0), 0);
        due.is("all", x.copy(0, 0, 1, 1, 6), 6);
        due.is("copied", rates(x, 1, 7).equals("9123456") ? 1 : 0, 1);
        due.is("onto itself, up", x.copy(0, 0, 0, 2, 4), 4);
        due.is("as they were", rates(x, 0, 6).equals("121234") ? 1 : 0, 1);
        due.is("onto itself, down", x.copy(0, 2, 0, 1, 4), 4);
        due.is("as they were", rates(x, 0, 6).equals("112344") ? 1 : 0, 1);
    }

    private static void copiesRefused() {
        CrystalByTheMinute x = new CrystalByTheMinute();
        x.sheet(0, 2, 6);
        x.sheet(1, 2, 4);
        x.sheet(2, 1, 6);
        due.is("sheet -1", x.copy(-1, 0, 0, 0, 1), BAD);
        due.is("sheet 4", x.copy(0, 0, 4, 0, 1), BAD);
        due.is("BAD ahead of -11", x.copy(3, 0, 4, 0, 1), BAD);
        due.is("missing", x.copy(3, 0, 0, 0, 1), NOTHING);
        due.is("missing", x.copy(0, 0, 3, 0, 1), NOTHING);
        due.is("-11 ahead of -12", x.copy(0, 0, 3, 0, -1), NOTHING);
        due.is("unlike", x.copy(0, 0, 2, 0, 1), OTHER);
        due.is("unlike ahead of outside", x.copy(0, -1, 2, 0, 1), OTHER);
        due.is("n -1", x.copy(0, 0, 1, 0, -1), OUTSIDE);
        due.is("n min", x.copy(0, 0, 1, 0, MIN), OUTSIDE);
        due.is("i -1", x.copy(0, -1, 1, 0, 1), OUTSIDE);
        due.is("j -1", x.copy(0, 0, 1, -1, 1), OUTSIDE);
        due.is("too many to come", x.copy(0, 0, 1, 0, 5), OUTSIDE);
        due.is("too many to go", x.copy(1, 0, 0, 0, 5), OUTSIDE);
        due.is("far", x.copy(0, MAX, 1, 0, 1), OUTSIDE);
        due.is("far", x.copy(0, 1, 1, MAX, MAX), OUTSIDE);
        due.is("far", x.copy(0, MAX, 1, MAX, 0), OUTSIDE);
        due.is("behind, though none", x.copy(0, 7, 1, 0, 0), OUTSIDE);
    }

    private static void figures() {
        CrystalByTheMinute x = new CrystalByTheMinute();
        Due.sheet(x, 0, 1, 9, 0, 1, 2, 3, 4, 5, 6, 6, 0, 0, 4, 9, 999);
        due.is("from item 1 on", x.figures(0, 1, 1, 2), 2);
        due.is("kind", x.told(0, 6), 0);
        due.is("number", x.told(0, 1), 1);
        due.is("means", x.told(0, 2), 2);
        due.is("kind", x.told(1, 6), 3);
        due.is("number", x.told(1, 1), 4);
        due.is("means", x.told(1, 2), 5);
        due.is("one is left out", x.figures(0, 1, 8, 2), 1);
        due.is("kind", x.told(2, 6), 4);
        due.is("number", x.told(2, 1), 9);
        due.is("means", x.told(2, 2), 999);
        due.is("none asked, whatever from", x.figures(0, 1, 99, 0), 0);
        due.is("none asked, whatever from", x.figures(0, 1, -1, 0), 0);
        due.is("what stood ahead came", x.figures(0, 1, 1, 6), OUTSIDE);
        due.is("three more, and one left out", x.count(0), 6);
        due.is("no room", x.figures(0, 1, 1, 2), 0);
        due.is("six", x.count(0), 6);
        due.is("the first stayed", x.told(0, 2), 2);
        due.is("outside, though there is no room", x.figures(0, 1, 13, 1), OUTSIDE);
    }

    private static void figuresWithoutRoom() {
        CrystalByTheMinute x = new CrystalByTheMinute();
        x.sheet(0, 2, 18);
        due.is("five", x.figures(0, 2, 0, 5), 5);
        due.is("the last place, others have no room", x.figures(0, 2, 0, 6), 1);
        due.is("six", x.count(0), 6);
    }

    private static void figuresRefused() {
        CrystalByTheMinute x = new CrystalByTheMinute();
        x.sheet(0, 0, 9);
        due.is("sheet -1", x.figures(-1, 0, 0, 1), BAD);
        due.is("sheet 4", x.figures(4, 0, 0, 1), BAD);
        due.is("sort -1", x.figures(0, -1, 0, 1), BAD);
        due.is("sort 3", x.figures(0, 3, 0, 1), BAD);
        due.is("n -1", x.figures(0, 0, 0, -1), BAD);
        due.is("n 7", x.figures(0, 0, 0, 7), BAD);
        due.is("BAD ahead of -13", x.figures(0, 1, 0, 7), BAD);
        due.is("BAD ahead of -11", x.figures(1, 0, 0, 7), BAD);
        due.is("another sort", x.figures(0, 1, 0, 1), OTHER);
        due.is("another sort, though none is asked", x.figures(0, 2, 99, 0), OTHER);
        for (int sort = 0; sort < 3; sort++) {
            due.is("missing, of whatever sort", x.figures(1, sort, -1, sort), NOTHING);
        }
        due.is("from -1", x.figures(0, 0, -1, 1), OUTSIDE);
        due.is("from -3", x.figures(0, 0, -3, 2), OUTSIDE);
        due.is("from min", x.figures(0, 0, MIN, 6), OUTSIDE);
        due.is("from max", x.figures(0, 0, MAX, 6), OUTSIDE);
        due.is("from 7: the third item is outside", x.figures(0, 0, 7, 1), OUTSIDE);
        due.is("none came", x.count(0), 0);
        due.is("from 6", x.figures(0, 0, 6, 1), 1);
    }

    private static void taken() {
        CrystalByTheMinute x = new CrystalByTheMinute();
        for (int k = 0; k < 6; k++) {
            x.figure(k, k + 3, 0);
        }
        int[] under = {63, 1 << 1 | 1 << 3, 1 << 2 | 1 << 4, 1 << 3, 1 << 4, 1 << 5};
        for (int k = 0; k < 6; k++) {
            for (int f = 0; f < 6; f++) {
                due.is("taken(" + f + ", " + k + ")", x.taken(f, k), (under[k] >> f & 1) == 1 ? f + 3 : OTHER);
            }
        }
        due.is("no such figure", x.taken(6, 0), NOTHING);
        due.is("figure -1", x.taken(-1, 5), NOTHING);
        due.is("k -1", x.taken(0, -1), BAD);
        due.is("k 6", x.taken(0, 6), BAD);
        due.is("BAD ahead of -11", x.taken(6, 6), BAD);
    }
}
