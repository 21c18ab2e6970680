/** Promises 18 to 24: tells, film, drawn, chance, image, back, count. */
final class CostsTest {
    private static final Due due = new Due("CostsTest");
    private static final int NONE = -1, BAD = -2, STATE = -3;
    private static final long NO = -4611686018427387904L;

    public static void main(String[] args) {
        telling();
        tellingByMeans();
        tellingByMeansAlone();
        tellingInAnyOrder();
        tellsRefused();
        filming();
        drawing();
        drawingOfSix();
        chances();
        images();
        counting();
        due.end();
    }

    private static void telling() {
        CrystalByTheMinute x = new CrystalByTheMinute();
        x.figure(1, 3, 10);
        x.set(0, 0, 2);
        Due.text(x, "prices hour+5;joys 0;pays 0;");
        Due.text(x, "prices 5*(number=3)+7*(number=6);joys 0;pays 0;");
        Due.sheet(x, 0, 0, 20);
        due.is("all is so", x.tells(0, 0, 0), NONE);
        due.is("kinds", x.tells(0, 0, 1), 2);
        due.is("numbers", x.tells(0, 0, 2), 1023);
        due.is("rates", x.tells(0, 0, 3), 4);
        due.is("texts", x.tells(0, 0, 4), 7);
        due.is("means, how many", x.tells(0, 0, 5), 1000);
        due.is("means, the least", x.tells(0, 0, 6), 0);
        Due.sheet(x, 0, 2, 20, 20);
        due.is("texts", x.tells(0, 0, 4), 5);
        x.force(1);
        due.is("the first hour that is otherwise", x.tells(0, 0, 0), 1);
        due.is("means, how many", x.tells(0, 0, 5), 0);
        due.is("means, the least", x.tells(0, 0, 6), NONE);
        x.force(2);
        due.is("numbers by the text", x.tells(0, 0, 2), 8);
        Due.sheet(x, 0, 1, 13);
        due.is("a stranger would cost number more", x.tells(0, 0, 1), 0);
        Due.sheet(x, 0, 1, 23);
        due.is("a stranger would cost number more", x.tells(0, 0, 1), 8);
        Due.sheet(x, 0, 1, 5);
        due.is("a clerk or a lamp", x.tells(0, 0, 1), 1 << 2 | 1 << 5);
        Due.sheet(x, 0, 1, 0);
        due.is("a burglar", x.tells(0, 0, 1), 1 << 4);
        due.is("otherwise at once", x.tells(0, 0, 0), 0);
        due.is("all is as it was", x.told(0, 6) * 1000 + x.told(0, 1) * 100 + x.told(0, 2), 1310);
        due.is("all is as it was", x.told(0, 0) * 10 + x.count(5), 22);
    }

    private static void tellingByMeans() {
        CrystalByTheMinute x = new CrystalByTheMinute();
        x.figure(0, 3, 10);
        x.force(Due.text(x, "prices 3*(means<20)+4*(99<means);joys 0;pays 0;"));
        Due.sheet(x, 0, 0, 3, 3, 3, 3, 3, 3, 3, 3, 3, 3, 3, 3);
        due.is("below 20", x.tells(0, 0, 5), 20);
        due.is("the least", x.tells(0, 0, 6), 0);
        Due.sheet(x, 0, 0, 4);
        due.is("100 and more", x.tells(0, 0, 5), 900);
        due.is("the least", x.tells(0, 0, 6), 100);
        Due.sheet(x, 0, 0, 4, 3);
        due.is("none", x.tells(0, 0, 5), 0);
        due.is("none", x.tells(0, 0, 6), NONE);
        due.is("means are as they were", x.told(0, 2), 10);
        x.figure(4, 3, 10);
        Due.sheet(x, 0, 0, 0, 0);
        due.is("a burglar, whatever its means", x.tells(0, 1, 5), 1000);
    }

    private static void tellingByMeansAlone() {
        CrystalByTheMinute x = new CrystalByTheMinute();
        x.figure(0, 3, 10);
        x.force(Due.text(x, "prices means;joys 0;pays 0;"));
        Due.sheet(x, 0, 0, 7);
        due.is("how many", x.tells(0, 0, 5), 1);
        due.is("the least", x.tells(0, 0, 6), 7);
        Due.sheet(x, 0, 0, 99);
        due.is("how many, at the bound", x.tells(0, 0, 5), 901);
        due.is("the least", x.tells(0, 0, 6), 99);
    }

    /** What a call tells does not hang on which call was ahead of it. */
    private static void tellingInAnyOrder() {
        CrystalByTheMinute x = new CrystalByTheMinute();
        x.figure(1, 3, 10);
        x.figure(0, 3, 10);
        Due.text(x, "prices number+means*(means<9);joys 0;pays 0;");
        Due.text(x, "prices number;joys 0;pays 0;");
        x.force(1);
        x.film(0, 0, 12);
        int[] wants = {-1, 2, 1 << 3, 2, 6, 1000 - 8, 0};
        for (int first = 0; first < 7; first++) {
            for (int second = 0; second < 7; second++) {
                x.tells(0, 1, first);
                x.tells(0, 0, first);
                due.is("tells(0, 0, " + second + ") behind " + first, x.tells(0, 0, second), wants[second]);
            }
        }
    }

    private static void tellsRefused() {
        CrystalByTheMinute x = new CrystalByTheMinute();
        x.figure(0, 0, 0);
        Due.sheet(x, 0, 0, 5, 5);
        due.is("sheet -1", x.tells(-1, 0, 0), BAD);
        due.is("sheet 4", x.tells(4, 0, 0), BAD);
        due.is("no such figure", x.tells(0, 1, 0), BAD);
        due.is("figure -1", x.tells(0, -1, 0), BAD);
        due.is("what -1", x.tells(0, 0, -1), BAD);
        due.is("what 7", x.tells(0, 0, 7), BAD);
        due.is("missing", x.tells(1, 0, 0), -11);
        due.is("BAD ahead of -11", x.tells(1, 1, 0), BAD);
        due.is("BAD ahead of -11", x.tells(1, 0, 7), BAD);
        x.sheet(1, 2, 13);
        due.is("more than 12", x.tells(1, 0, 0), BAD);
        x.sheet(1, 2, 12);
        due.is("12", x.tells(1, 0, 0), 0);
    }

    private static void filming() {
        CrystalByTheMinute x = new CrystalByTheMinute();
        x.figure(0, 0, 0);
        x.force(Due.text(x, "prices hour*90;joys 0;pays 0;"));
        x.set(0, 0, 9);
        due.is("film", x.film(3, 0, 12), 12);
        due.is("it is so", x.tells(3, 0, 0), NONE);
        x.force(Due.text(x, "prices hour*91;joys 0;pays 0;"));
        due.is("otherwise from 1 on", x.tells(3, 0, 0), 1);
        x.sheet(2, 1, 12);
        due.is("of shorts, of 12", x.copy(3, 0, 2, 0, 12), 12);
        due.is("no more", x.cell(3, 12, 0), -12);
        x.sheet(2, 2, 12);
        due.is("not of ints", x.copy(3, 0, 2, 0, 12), -13);
        due.is("shorter", x.film(3, 0, 1), 1);
        due.is("one cell", x.cell(3, 1, 0), -12);
        due.is("none", x.film(3, 0, 0), 0);
        due.is("no cell", x.cell(3, 0, 0), -12);
        due.is("sheet 4", x.film(4, 0, 1), BAD);
        due.is("sheet -1", x.film(-1, 0, 1), BAD);
        due.is("no such figure", x.film(0, 1, 1), BAD);
        due.is("n -1", x.film(0, 0, -1), BAD);
        due.is("n 13", x.film(0, 0, 13), BAD);
        due.is("it is missing still", x.cell(0, 0, 0), -11);
    }

    private static void drawing() {
        CrystalByTheMinute x = new CrystalByTheMinute();
        due.is("none", x.drawn(5), 0);
        x.figure(0, 0, 0);
        x.figure(1, 0, 0);
        x.client(3, 3);
        x.client(3, 3);
        x.client(3, 3);
        for (int seed : new int[] {77, -1, Integer.MAX_VALUE, Integer.MIN_VALUE}) {
            due.is("drawn(" + seed + ")", x.drawn(seed), drawnByHand(seed));
        }
        for (int seed = 0; seed < 200; seed++) {
            due.is("drawn(" + seed + ")", x.drawn(seed), drawnByHand(seed));
        }
        due.is("means are as they were", x.count(2), 0);
        x.force(Due.text(x, "prices 0;joys means;pays 0;"));
        int z = 5 * 1103515245 + 12345;
        due.is("the text sees the means that would be", x.drawn(5), 3 * ((z >>> 9) % 100));
    }

    /** Five of six figures, each shown to one who is as glad as its means are. */
    private static void drawingOfSix() {
        CrystalByTheMinute x = new CrystalByTheMinute();
        for (int f = 0; f < 6; f++) {
            x.figure(0, 0, 0);
        }
        for (int c = 0; c < 5; c++) {
            x.client(0, 2 << c);
        }
        x.force(Due.text(x, "prices 0;joys means;pays 0;"));
        int times = 0;
        for (int seed = -10; seed < 10; seed++) {
            int z = seed;
            int joy = 0;
            for (int f = 0; f < 6; f++) {
                z = z * 1103515245 + 12345;
                joy += f == 0 ? 0 : (z >>> 9) % 100;
            }
            due.is("drawn(" + seed + ")", x.drawn(seed), joy);
            times += joy >= 198 ? 1 : 0;
            due.is("above", x.chance(-10, seed + 11, 198, 0) * (seed + 11), times * x.chance(-10, seed + 11, 198, 1));
        }
        due.is("some are, some are not", times > 3 && times < 17 ? 1 : 0, 1);
    }

    /** Of the two figures above: the first by fives, then the second by tens. */
    private static int drawnByHand(int seed) {
        int z = seed * 1103515245 + 12345;
        int first = (z >>> 9) % 100;
        z = z * 1103515245 + 12345;
        int second = (z >>> 9) % 100;
        int joy = 0;
        for (int c = 0; c < 3; c++) {
            if (first >= 5) {
                first -= 5;
                joy += 10;
            } else if (second >= 10) {
                second -= 10;
                joy += 12;
            }
        }
        return joy;
    }

    /** The first seed with two others near by of which the joy is more than usual, so that chances are neither 0 nor 1. */
    private static int seedOfMore() {
        for (int seed = 1; seed < 100000; seed++) {
            int times = 0;
            for (int i = 0; i < 8; i++) {
                times += drawnByHand(seed + i) > 30 ? 1 : 0;
            }
            if (times >= 2 && times <= 6) {
                return seed;
            }
        }
        due.is("a seed of more joy is found", 0, 1);
        return 0;
    }

    private static CrystalByTheMinute twoAndThree() {
        CrystalByTheMinute x = new CrystalByTheMinute();
        x.figure(0, 0, 0);
        x.figure(1, 0, 0);
        x.client(3, 3);
        x.client(3, 3);
        x.client(3, 3);
        return x;
    }

    private static void chances() {
        CrystalByTheMinute x = twoAndThree();
        int[] seeds = {0, seedOfMore(), Integer.MAX_VALUE - 3};
        for (int n = 1; n <= 20; n++) {
            x = twoAndThree();
            for (int k : new int[] {0, 30, 31, 32, 34, 36, 999}) {
                for (int seed : seeds) {
                    int times = 0;
                    for (int i = 0; i < n; i++) {
                        times += drawnByHand(seed + i) >= k ? 1 : 0;
                    }
                    int d = java.math.BigInteger.valueOf(times).gcd(java.math.BigInteger.valueOf(n)).intValue();
                    due.is("above, k " + k + " in " + n, x.chance(seed, n, k, 0), times / d);
                    due.is("below, k " + k + " in " + n, x.chance(seed, n, k, 1), n / d);
                }
            }
        }
        due.is("n 0", x.chance(0, 0, 0, 0), NO);
        due.is("n 21", x.chance(0, 21, 0, 0), NO);
        due.is("n -1", x.chance(0, -1, 0, 0), NO);
        due.is("k -1", x.chance(0, 1, -1, 0), NO);
        due.is("k 1000", x.chance(0, 1, 1000, 0), NO);
        due.is("part -1", x.chance(0, 1, 0, -1), NO);
        due.is("part 2", x.chance(0, 1, 0, 2), NO);
    }

    private static void images() {
        CrystalByTheMinute x = new CrystalByTheMinute();
        due.is("none yet", x.back(), STATE);
        x.figure(1, 2, 30);
        x.client(4, 1);
        Due.text(x, "prices 9;joys 9;pays 9;");
        due.is("image", x.image(), 1);
        String before = Due.state(x);
        x.figure(5, 5, 55);
        x.client(1, 3);
        x.set(0, 0, 3);
        x.set(1, 0, 9);
        x.set(2, 0, 99);
        x.set(3, 0, 9);
        x.set(4, 0, 9);
        x.set(5, 0, 9);
        x.force(1);
        due.is("back", x.back(), 1);
        due.is("all is as it was", before.equals(Due.state(x)) ? 1 : 0, 1);
        Due.text(x, "prices 8;joys 8;pays 8;");
        Due.feed(x, "prices");
        Due.sheet(x, 0, 0, 7);
        due.is("a figure of another kind", x.figure(2, 7, 70), 1);
        due.is("up at all hours", x.told(1, 3), 4095);
        due.is("back once more", x.back(), 1);
        due.is("texts stay", x.count(3), 3);
        due.is("the tape stays", x.count(4), 6);
        due.is("sheets stay", x.cell(0, 0, 0), 1);
        x.set(2, 0, 1);
        x.force(2);
        due.is("image anew", x.image(), 1);
        x.force(0);
        x.set(2, 0, 2);
        due.is("back", x.back(), 1);
        due.is("to the newer one", x.told(0, 2), 1);
        due.is("with its rule", x.count(5), 2);
    }

    private static void counting() {
        CrystalByTheMinute x = new CrystalByTheMinute();
        x.figure(1, 2, 30);
        x.figure(1, 2, 999);
        x.client(4, 1);
        Due.text(x, "prices 9;joys 9;pays 9;");
        x.force(1);
        Due.feed(x, "pri");
        int[] wants = {2, 1, 1029, 2, 3, 1};
        for (int what = 0; what < 6; what++) {
            due.is("count(" + what + ")", x.count(what), wants[what]);
        }
        due.is("count(-1)", x.count(-1), BAD);
        due.is("count(6)", x.count(6), BAD);
    }
}
