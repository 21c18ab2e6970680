import java.util.function.Supplier;
import java.util.function.ToLongFunction;

/** What the tests of the boundary cases share: worlds to begin with, and whether a call left all as it was. */
final class Edges {
    static final int NONE = -1, BAD = -2, STATE = -3, FULL = -4;
    static final int NOTHING = -11, OUTSIDE = -12, OTHER = -13, BELOW = -14;
    static final int NO_GLADNESS = -1000, NO_ANSWER = -100000;
    static final long NO = -4611686018427387904L;
    static final int MAX = Integer.MAX_VALUE, MIN = Integer.MIN_VALUE;

    /** By this rule a FIGURE costs what its MEANS are (99 at most): so a cell can be read. */
    static final String METER = "prices means;joys number;pays 9;";
    private static final int SCRATCH = 3;

    private Edges() {
    }

    /** A call must answer so, and whatever can be asked later must be as if it had not been made. */
    static void leaves(Due due, String call, Supplier<CrystalByTheMinute> world,
            ToLongFunction<CrystalByTheMinute> asked, long want) {
        CrystalByTheMinute x = world.get();
        due.is(call, asked.applyAsLong(x), want);
        due.same(call, everything(x), everything(world.get()));
    }

    // ---- worlds

    static CrystalByTheMinute empty() {
        return new CrystalByTheMinute();
    }

    /**
     * Two figures, two clients, two texts, a tape that has begun, sheets 0 .. 2 of sorts 0 .. 2, sheet 3
     * missing; an image of one figure, one client, another rate and another rule.
     */
    static CrystalByTheMinute small() {
        CrystalByTheMinute x = new CrystalByTheMinute();
        x.figure(0, 3, 40);
        x.client(2, 1);
        x.set(0, 0, 2);
        x.image();
        x.set(0, 0, 3);
        x.set(1, 0, 4);
        x.set(2, 0, 11);
        x.set(3, 0, 4094);
        x.set(4, 0, 5);
        x.set(5, 0, 3);
        x.figure(1, 4, 50);
        x.client(3, 2);
        Due.text(x, METER);
        x.force(1);
        Due.feed(x, "prices 7");
        Due.sheet(x, 0, 0, 1, 0);
        Due.sheet(x, 1, 1, 7, 0, 9);
        Due.sheet(x, 2, 2, 5, 6);
        return x;
    }

    /** Six figures, of each kind one, and five clients; no image. */
    static CrystalByTheMinute crowded() {
        CrystalByTheMinute x = new CrystalByTheMinute();
        for (int k = 0; k < 6; k++) {
            x.figure(k, k + 1, 20 * k + 15);
        }
        for (int c = 0; c < 5; c++) {
            x.client(c + 1, 63 - c);
        }
        return x;
    }

    /** A figure, a client, six texts, and another one on the tape, which is whole. */
    static CrystalByTheMinute fullOfTexts() {
        CrystalByTheMinute x = new CrystalByTheMinute();
        x.figure(0, 3, 40);
        x.client(2, 1);
        Due.text(x, METER);
        for (int t = 2; t < 6; t++) {
            Due.text(x, "prices " + t + ";joys 1;pays 1;");
        }
        Due.feed(x, "prices 1;joys 1;pays 1;");
        return x;
    }

    /** A figure, a client, and a tape of 160 bytes: a text, and blanks. */
    static CrystalByTheMinute fullTape() {
        CrystalByTheMinute x = new CrystalByTheMinute();
        x.figure(0, 3, 40);
        x.client(2, 1);
        Due.feed(x, padded("prices 8;joys 7;pays 6;", 160));
        return x;
    }

    /** A text with blanks behind it, of so many bytes. */
    static String padded(String text, int size) {
        return text + " ".repeat(size - text.length());
    }

    // ---- reading all

    /** All that an object holds (of sheet 3 the sort and the size alone), by calls that spoil it. */
    static String everything(CrystalByTheMinute x) {
        StringBuilder b = new StringBuilder(Due.state(x));
        for (int s = 0; s < 4; s++) {
            b.append(", sheet of ").append(sort(x, s)).append(' ').append(size(x, s));
        }
        b.append(", tape ").append(Due.text(x, ";joys 4;pays 6;"));
        for (int t = 0; t < x.count(3); t++) {
            x.force(t);
            b.append(", text ").append(x.told(0, 10)).append(' ').append(x.glad(0, 0, 0)).append(' ').append(x.glad(0, 0, 1));
        }
        beginReading(x);
        for (int s = 0; s < SCRATCH; s++) {
            int size = size(x, s);
            for (int i = 0; i < size; i++) {
                b.append(i == 0 ? ", cells " : " ").append(read(x, s, i));
            }
        }
        return b.append(", image ").append(x.back()).append(' ').append(Due.state(x)).toString();
    }

    /** -1 of a missing sheet. */
    static int sort(CrystalByTheMinute x, int sheet) {
        for (int sort = 0; sort < 3; sort++) {
            if (x.figures(sheet, sort, 0, 0) == 0) {
                return sort;
            }
        }
        return NONE;
    }

    /** -1 of a missing sheet; none is copied to find out. */
    static int size(CrystalByTheMinute x, int sheet) {
        int n = 0;
        while (n <= 40 && x.copy(sheet, n, sheet, n, 0) == 0) {
            n++;
        }
        return n - 1;
    }

    /** Makes figure 0, a FIGURE, cost what its MEANS are. */
    static void beginReading(CrystalByTheMinute x) {
        if (x.count(0) == 0) {
            x.figure(0, 0, 0);
        }
        int meter = Due.text(x, METER);
        x.force(meter >= 0 ? meter : 1);
        x.set(0, 0, 1);
    }

    /** A cell that is 0 .. 98, else -1: behind beginReading(), by sheet 3. */
    static int read(CrystalByTheMinute x, int sheet, int i) {
        x.sheet(SCRATCH, sort(x, sheet), 1);
        if (x.copy(sheet, i, SCRATCH, 0, 1) != 1) {
            return NONE;
        }
        return x.tells(SCRATCH, 0, 6);
    }
}
