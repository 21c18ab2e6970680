/** Promises 1 to 6: a new object, set, figure, client, told, glad. */
final class FiguresTest {
    private static final Due due = new Due("FiguresTest");
    private static final int BAD = -2, FULL = -4;

    public static void main(String[] args) {
        aNewObject();
        figures();
        clients();
        setting();
        settingRefused();
        telling();
        costsOfKinds();
        costsAtTheBound();
        appearances();
        gladness();
        due.end();
    }

    private static void aNewObject() {
        CrystalByTheMinute x = new CrystalByTheMinute();
        due.is("count(0)", x.count(0), 0);
        due.is("count(1)", x.count(1), 0);
        due.is("count(2)", x.count(2), 0);
        due.is("count(3)", x.count(3), 1);
        due.is("count(4)", x.count(4), 0);
        due.is("count(5)", x.count(5), 0);
        due.is("told(0, 0)", x.told(0, 0), 1);
        due.is("told(0, 6)", x.told(0, 6), BAD);
        due.is("back()", x.back(), -3);
        for (int s = 0; s < 4; s++) {
            due.is("cell(s, 0, 0)", x.cell(s, 0, 0), -11);
        }
    }

    private static void figures() {
        CrystalByTheMinute x = new CrystalByTheMinute();
        due.is("kind -1", x.figure(-1, 0, 0), BAD);
        due.is("kind 6", x.figure(6, 0, 0), BAD);
        due.is("number -1", x.figure(0, -1, 0), BAD);
        due.is("number 10", x.figure(0, 10, 0), BAD);
        due.is("means -1", x.figure(0, 0, -1), BAD);
        due.is("means 1000", x.figure(0, 0, 1000), BAD);
        due.is("none came", x.count(0), 0);
        for (int k = 0; k < 6; k++) {
            due.is("figure", x.figure(k, 9 - k, k == 0 ? 999 : k), k);
            due.is("kind", x.told(k, 6), k);
            due.is("number", x.told(k, 1), 9 - k);
            due.is("means", x.told(k, 2), k == 0 ? 999 : k);
            due.is("up", x.told(k, 3), 4095);
        }
        String before = Due.state(x);
        due.is("BAD ahead of FULL", x.figure(6, 0, 0), BAD);
        due.is("BAD ahead of FULL", x.figure(0, 0, 1000), BAD);
        due.is("FULL", x.figure(0, 0, 0), FULL);
        due.is("nothing changed", before.equals(Due.state(x)) ? 1 : 0, 1);
    }

    private static void clients() {
        CrystalByTheMinute x = new CrystalByTheMinute();
        due.is("hour -1", x.client(-1, 0), BAD);
        due.is("hour 12", x.client(12, 0), BAD);
        due.is("wishes -1", x.client(0, -1), BAD);
        due.is("wishes 64", x.client(0, 64), BAD);
        due.is("none came", x.count(1), 0);
        for (int c = 0; c < 5; c++) {
            due.is("client", x.client(11 - c, 63 - c), c);
            due.is("hour", x.told(c, 4), 11 - c);
            due.is("wishes", x.told(c, 5), 63 - c);
        }
        due.is("BAD ahead of FULL", x.client(12, 0), BAD);
        due.is("FULL", x.client(0, 0), FULL);
        due.is("five", x.count(1), 5);
    }

    private static void setting() {
        CrystalByTheMinute x = new CrystalByTheMinute();
        x.figure(0, 1, 2);
        x.figure(1, 3, 4);
        x.client(5, 6);
        x.client(7, 8);
        due.is("rate, of any", x.set(0, 99, 9), 1);
        due.is("rate, of any", x.set(0, -5, 2), 9);
        int[] most = {9, 9, 999, 4095, 11, 63};
        int[] was = {2, 3, 4, 4095, 7, 8};
        for (int what = 1; what < 6; what++) {
            due.is("what it was", x.set(what, 1, most[what]), was[what]);
            due.is("the most", x.told(1, what), most[what]);
            due.is("the least", x.set(what, 1, 0), most[what]);
            due.is("the least", x.told(1, what), 0);
        }
        due.is("the other's number", x.told(0, 1), 1);
        due.is("the other's means", x.told(0, 2), 2);
        due.is("the other's hours", x.told(0, 3), 4095);
        due.is("the other's hour", x.told(0, 4), 5);
        due.is("the other's wishes", x.told(0, 5), 6);
        due.is("the rate", x.told(77, 0), 2);
    }

    private static void settingRefused() {
        CrystalByTheMinute x = new CrystalByTheMinute();
        x.figure(0, 1, 2);
        x.client(5, 6);
        x.client(7, 8);
        String before = Due.state(x);
        int[] tooMuch = {10, 10, 1000, 4096, 12, 64};
        for (int what = 0; what < 6; what++) {
            due.is("too much", x.set(what, 0, tooMuch[what]), BAD);
            due.is("below", x.set(what, 0, what == 0 ? 0 : -1), BAD);
            due.is("far below", x.set(what, 0, Integer.MIN_VALUE), BAD);
            due.is("far above", x.set(what, 0, Integer.MAX_VALUE), BAD);
        }
        for (int what = 1; what < 4; what++) {
            due.is("no such figure, though a client", x.set(what, 1, 0), BAD);
            due.is("figure -1", x.set(what, -1, 0), BAD);
        }
        for (int what = 4; what < 6; what++) {
            due.is("no such client", x.set(what, 2, 0), BAD);
            due.is("client -1", x.set(what, -1, 0), BAD);
        }
        due.is("what 6", x.set(6, 0, 0), BAD);
        due.is("what -1", x.set(-1, 0, 0), BAD);
        due.is("nothing changed", before.equals(Due.state(x)) ? 1 : 0, 1);
    }

    private static void telling() {
        CrystalByTheMinute x = new CrystalByTheMinute();
        x.figure(3, 7, 20);
        x.figure(0, 0, 0);
        due.is("asked by none", x.told(0, 7), 0);
        x.client(0, 1);
        x.client(0, 3);
        x.client(11, 2);
        x.client(11, 61);
        due.is("asked", x.told(0, 7), 3);
        due.is("asked", x.told(1, 7), 2);
        due.is("a wish for one that isn't here yet", x.figure(0, 0, 0), 2);
        due.is("asked", x.told(2, 7), 1);
        for (int what : new int[] {-1, 8, 9, 22, 29, 42, Integer.MAX_VALUE, Integer.MIN_VALUE}) {
            due.is("told(0, " + what + ")", x.told(0, what), BAD);
        }
        for (int what : new int[] {1, 2, 3, 6, 7, 10, 21, 30, 41}) {
            due.is("no such figure, what " + what, x.told(3, what), BAD);
            due.is("figure -1, what " + what, x.told(-1, what), BAD);
        }
        due.is("no such client", x.told(4, 4), BAD);
        due.is("no such client", x.told(-1, 5), BAD);
        due.is("a client, no figure", x.told(3, 4), 11);
    }

    private static void costsOfKinds() {
        CrystalByTheMinute x = new CrystalByTheMinute();
        for (int k = 0; k < 6; k++) {
            x.figure(k, 4, 10);
        }
        int[][] wants = {{5, 10, 2, 14, 0, 5}, {35, 70, 17, 74, 0, 5}};
        for (int i = 0; i < 2; i++) {
            x.set(0, 0, i == 0 ? 1 : 7);
            for (int k = 0; k < 6; k++) {
                for (int h = 0; h < 12; h++) {
                    due.is("costs of kind " + k, x.told(k, 10 + h), wants[i][k]);
                }
            }
        }
        x.force(Due.text(x, "prices hour;joys 0;pays 0;"));
        x.set(0, 0, 1);
        for (int h = 0; h < 12; h++) {
            due.is("half, cut", x.told(2, 10 + h), h / 2);
            due.is("a lamp", x.told(5, 10 + h), Math.min(h, 5));
            due.is("a stranger", x.told(3, 10 + h), 2 * h + 4);
        }
    }

    private static void costsAtTheBound() {
        CrystalByTheMinute x = new CrystalByTheMinute();
        for (int k = 0; k < 6; k++) {
            x.figure(k, 9, 10);
        }
        x.set(0, 0, 9);
        x.force(Due.text(x, "prices 9999;joys 0;pays 0;"));
        int[] wants = {891, 999, 445, 999, 0, 5};
        for (int k = 0; k < 6; k++) {
            due.is("dearest of kind " + k, x.told(k, 10), wants[k]);
        }
        x.force(Due.text(x, "prices 55;joys 0;pays 0;"));
        due.is("a lady", x.told(1, 10), 990);
        due.is("a stranger, 9 more", x.told(3, 10), 999);
        x.force(Due.text(x, "prices -1;joys 0;pays 0;"));
        int[] least = {0, 0, 0, 9, 0, 0};
        for (int k = 0; k < 6; k++) {
            due.is("cheapest of kind " + k, x.told(k, 10), least[k]);
        }
    }

    private static void appearances() {
        CrystalByTheMinute x = new CrystalByTheMinute();
        for (int k = 0; k < 6; k++) {
            x.figure(k, 7, 10);
        }
        int lady = 1 << 2 | 1 << 3 | 1 << 4 | 1 << 5;
        int burglar = 1 << 1 | 1 << 4 | 1 << 7 | 1 << 10;
        int lamp = 1 | 1 << 2 | 1 << 4 | 1 << 6 | 1 << 8 | 1 << 10;
        int[] wants = {4095, lady, 4095, lady | 1 << 7, burglar, lamp};
        for (int up : new int[] {4095, 0, 0xAAA, 0x00F, 1 << 11}) {
            for (int k = 0; k < 6; k++) {
                x.set(3, k, up);
                for (int h = 0; h < 12; h++) {
                    due.is("appears, kind " + k + " hour " + h, x.told(k, 30 + h), (wants[k] & up) >> h & 1);
                }
            }
        }
        x.set(3, 4, 4095);
        x.set(1, 4, 0);
        due.is("a burglar of number 0", x.told(4, 30), 1);
        due.is("a burglar of number 0", x.told(4, 31), 0);
        due.is("a burglar of number 0", x.told(4, 39), 1);
    }

    private static void gladness() {
        CrystalByTheMinute x = new CrystalByTheMinute();
        for (int k = 0; k < 6; k++) {
            x.figure(k, 7, 10);
        }
        x.client(0, 63);
        x.client(1, 0);
        int[] wished = {10, 12, 5, 24, -4, 1};
        int[] other = {0, 2, 0, 4, -9, 1};
        for (int k = 0; k < 6; k++) {
            due.is("glad, wished", x.glad(0, k, 0), wished[k]);
            due.is("pays, wished", x.glad(0, k, 1), 8);
            due.is("glad, not wished", x.glad(1, k, 0), other[k]);
            due.is("pays, not wished", x.glad(1, k, 1), 0);
        }
        x.force(Due.text(x, "prices 0;joys -13;pays 100;"));
        int[] sad = {-13, -11, -6, -22, -15, 1};
        for (int k = 0; k < 6; k++) {
            due.is("sad, wished", x.glad(0, k, 0), sad[k]);
            due.is("not wished", x.glad(1, k, 0), other[k]);
            due.is("pays 99 at most", x.glad(1, k, 1), 99);
        }
        x.force(Due.text(x, "prices 0;joys 100;pays -1;"));
        due.is("joys 99 at most", x.glad(0, 0, 0), 99);
        due.is("a stranger's", x.glad(0, 3, 0), 202);
        due.is("pays 0 at least", x.glad(0, 0, 1), 0);
        x.force(Due.text(x, "prices 0;joys -100;pays 99;"));
        due.is("joys -99 at least", x.glad(0, 0, 0), -99);
        due.is("half, cut toward 0", x.glad(0, 2, 0), -49);
        for (int bad : new int[] {-1, 2, 6, Integer.MAX_VALUE}) {
            due.is("no such client", x.glad(bad, 0, 0), -1000);
            due.is("no such what", x.glad(0, 0, bad), -1000);
        }
        due.is("no such figure", x.glad(0, 6, 0), -1000);
        due.is("no such figure", x.glad(0, -1, 1), -1000);
    }
}
