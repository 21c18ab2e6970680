/** Counts the answers that are not as due, and ends the test with exit code 1 if there was one. */
final class Due {
    private final String test;
    private int calls, wrong;

    Due(String test) {
        this.test = test;
    }

    void is(String call, long got, long want) {
        calls++;
        if (got != want) {
            wrong++;
            System.out.println(test + ": " + call + " answered " + got + ", due is " + want);
        }
    }

    void end() {
        System.out.println(test + ": " + calls + " answers, " + wrong + " not as due");
        if (wrong != 0) {
            System.exit(1);
        }
    }

    /** Feeds a text to the tape, byte by byte. */
    static void feed(CrystalByTheMinute x, String text) {
        for (int i = 0; i < text.length(); i++) {
            x.feed(text.charAt(i));
        }
    }

    /** Feeds a text and reads it: what text() answers. */
    static int text(CrystalByTheMinute x, String text) {
        feed(x, text);
        return x.text();
    }

    /** Makes a sheet of a sort with the given numbers. */
    static void sheet(CrystalByTheMinute x, int sheet, int sort, int... row) {
        x.sheet(sheet, sort, row.length);
        for (int i = 0; i < row.length; i++) {
            x.cell(sheet, i, row[i]);
        }
    }

    /** Everything that calls can tell of an object without changing it, so that two states can be compared. */
    static String state(CrystalByTheMinute x) {
        StringBuilder b = new StringBuilder();
        for (int what = 0; what < 6; what++) {
            b.append(x.count(what)).append(' ');
        }
        for (int of = 0; of < 6; of++) {
            for (int what = 0; what < 42; what++) {
                b.append(x.told(of, what)).append(' ');
            }
        }
        for (int c = 0; c < 5; c++) {
            for (int f = 0; f < 6; f++) {
                b.append(x.glad(c, f, 0)).append(' ').append(x.glad(c, f, 1)).append(' ');
            }
        }
        return b.toString();
    }
}
