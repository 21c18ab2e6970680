/** Counts the answers that are not as due, and ends the test with exit code 1 if there was one. */
final class Due {
    private final String test;
    private int calls, wrong;

    Due(String test) {
        this.test = test;
    }

    void is(String call, long got, long want) {
        calls++;
        if (got != want) {
            wrong++;
            System.out.println(test + ": " + call + " answered " + got + ", due is " + want);
        }
    }

    /** Two states, as state() or everything() tell them, must be the same. */
    void same(String call, String got, String want) {
        calls++;
        if (!got.equals(want)) {
            wrong++;
            System.out.println(test + ": " + call + " left\n  " + got + ", due is\n  " + want);
        }
    }

    /** A text with ! at the place of its fault: it must be found there. */
    void fault(String call, String marked) {
        int place = marked.indexOf('!');
        String text = marked.substring(0, place) + marked.substring(place + 1);
        is(call + " '" + text + "'", text(new CrystalByTheMinute(), text), -100 - place);
    }

    int calls() {
        return calls;
    }

    void end() {
        System.out.println(test + ": " + calls + " answers, " + wrong + " not as due");
        if (wrong != 0) {
            System.exit(1);
        }
    }

    /** Feeds a text to the tape, byte by byte. */
    static void feed(CrystalByTheMinute x, String text) {
        for (int i = 0; i < text.length(); i++) {
            x.feed(text.charAt(i));
        }
    }

    /** Feeds a text and reads it: what text() answers. */
    static int text(CrystalByTheMinute x, String text) {
        feed(x, text);
        return x.text();
    }

    /** Makes a sheet of a sort with the given numbers. */
    static void sheet(CrystalByTheMinute x, int sheet, int sort, int... row) {
        x.sheet(sheet, sort, row.length);
        for (int i = 0; i < row.length; i++) {
            x.cell(sheet, i, row[i]);
        }
    }

    /** Figures, clients, rate, rule and counts: by few calls, for an object's 512 must do for two states and what lies between. */
    static String state(CrystalByTheMinute x) {
        StringBuilder b = new StringBuilder("counts");
        for (int what = 0; what < 6; what++) {
            b.append(' ').append(x.count(what));
        }
        b.append(", rate ").append(x.told(0, 0));
        for (int f = 0; f < x.count(0); f++) {
            b.append(", figure");
            for (int what : new int[] {6, 1, 2, 3, 7, 10, 21}) {
                b.append(' ').append(x.told(f, what));
            }
        }
        for (int c = 0; c < x.count(1); c++) {
            b.append(", client ").append(x.told(c, 4)).append(' ').append(x.told(c, 5));
            b.append(' ').append(x.glad(c, 0, 0)).append(' ').append(x.glad(c, 0, 1));
        }
        return b.toString();
    }
}
