/** Promises 13 to 17: few, missed, change, raise, dear. */
final class BestTest {
    private static final Due due = new Due("BestTest");
    private static final int NONE = -1, BAD = -2, NO_ANSWER = -100000;

    public static void main(String[] args) {
        none();
        few();
        fewOfJustAsMuchJoy();
        fewOfLeastBits();
        fewBehindMoreClients();
        missed();
        change();
        raise();
        raiseByText();
        dear();
        refused();
        due.end();
    }

    private static void none() {
        CrystalByTheMinute x = new CrystalByTheMinute();
        due.is("few", x.few(0), 0);
        due.is("how many", x.few(1), 0);
        due.is("missed", x.missed(0), NONE);
        due.is("joy", x.missed(1), 0);
        due.is("change", x.change(0), NONE);
        due.is("joy", x.change(1), 0);
        due.is("raise", x.raise(999, 0), NONE);
        due.is("joy", x.raise(999, 1), 0);
        due.is("dear", x.dear(0), 1);
        due.is("income", x.dear(1), 0);
    }

    private static void few() {
        CrystalByTheMinute x = new CrystalByTheMinute();
        x.figure(0, 0, 5);
        x.figure(0, 0, 5);
        x.figure(0, 0, 10);
        x.client(0, 7);
        due.is("one does, the least", x.few(0), 1);
        x.client(0, 7);
        due.is("the one who can pay twice", x.few(0), 4);
        due.is("how many", x.few(1), 1);
        x.client(0, 7);
        due.is("the least bits of two", x.few(0), 5);
        due.is("how many", x.few(1), 2);
        x.client(0, 7);
        due.is("all", x.few(0), 7);
        due.is("how many", x.few(1), 3);
        x.set(2, 2, 99);
        due.is("one for all", x.few(0), 4);
        x.set(3, 2, 0);
        due.is("not up: no use", x.few(0), 3);
    }

    private static void fewOfJustAsMuchJoy() {
        CrystalByTheMinute x = new CrystalByTheMinute();
        x.figure(0, 0, 5);
        x.figure(5, 0, 5);
        x.client(0, 1);
        x.client(0, 0);
        due.is("joy", x.showing(0, 1), 11);
        due.is("one less would not do", x.few(0), 3);
    }

    private static void fewOfLeastBits() {
        CrystalByTheMinute x = new CrystalByTheMinute();
        x.figure(0, 0, 5);
        x.figure(0, 0, 5);
        x.figure(0, 0, 5);
        x.client(0, 3);
        x.client(0, 5);
        due.is("the first gladdest showing", x.showing(0, 0), 13);
        due.is("another has lesser bits", x.few(0), 3);
    }

    private static void fewBehindMoreClients() {
        CrystalByTheMinute x = new CrystalByTheMinute();
        x.figure(0, 0, 5);
        x.figure(0, 0, 5);
        x.client(0, 1);
        x.image();
        x.client(0, 3);
        due.is("two for two", x.few(0), 3);
        x.back();
        due.is("one for one", x.few(0), 1);
    }

    private static void missed() {
        CrystalByTheMinute x = new CrystalByTheMinute();
        x.figure(0, 0, 5);
        due.is("no clients: the first", x.missed(0), 0);
        due.is("joy", x.missed(1), 0);
        x.figure(1, 0, 20);
        x.figure(1, 0, 20);
        x.client(2, 3);
        x.client(3, 3);
        x.client(4, 4);
        due.is("missed", x.missed(0), 1);
        due.is("joy", x.missed(1), 10 + 2 + 12);
        x.set(5, 2, 0);
        due.is("of like ones the first", x.missed(0), 1);
        x.set(5, 0, 4);
        due.is("now both, by turns", x.missed(0), 2);
        due.is("joy", x.missed(1), 2 + 12);
        due.is("nobody went", x.told(2, 3), 4095);
    }

    private static void change() {
        CrystalByTheMinute x = new CrystalByTheMinute();
        x.figure(1, 0, 99);
        x.client(9, 1);
        due.is("one alone", x.change(0), NONE);
        x.client(3, 0);
        x.client(4, 0);
        due.is("change 0 and 1, ahead of 0 and 2", x.change(0), 1);
        due.is("joy", x.change(1), 12 + 2);
        x.client(5, 1);
        due.is("joy as now", x.showing(0, 1), 2 + 2 + 12);
        due.is("likewise", x.change(0), 1);
        x.set(5, 1, 1);
        due.is("now 2 is the one to change with", x.change(0), 2);
        due.is("joy", x.change(1), 12 + 12 + 12);
        x.set(5, 2, 1);
        due.is("none is better", x.change(0), NONE);
        due.is("joy as now", x.change(1), 36);
        due.is("the hours are as they were", x.told(0, 4) * 100 + x.told(1, 4), 903);
        x.force(Due.text(x, "prices 0;joys hour*number+(number=0)*5*hour;pays 0;"));
        x.set(5, 0, 0);
        x.set(5, 1, 0);
        x.set(5, 3, 0);
        due.is("joy by the text", x.showing(0, 1), 2 + 22 + 2);
        due.is("the text sees the changed hour", x.change(0), 23);
        due.is("joy", x.change(1), 2 + 27 + 2);
    }

    private static void raise() {
        CrystalByTheMinute x = new CrystalByTheMinute();
        x.figure(0, 0, 0);
        x.figure(0, 0, 2);
        x.figure(1, 0, 4);
        x.client(3, 7);
        due.is("none by 2", x.raise(2, 0), NONE);
        due.is("joy as now", x.raise(2, 1), 0);
        due.is("the second by 3", x.raise(3, 0), 1);
        due.is("joy", x.raise(3, 1), 10);
        due.is("of like ones the first", x.raise(5, 0), 0);
        due.is("the lady by 6", x.raise(6, 0), 2);
        due.is("joy", x.raise(6, 1), 12);
        due.is("none by 0", x.raise(0, 0), NONE);
        due.is("by most", x.raise(999, 1), 12);
        due.is("means are as they were", x.count(2), 6);
    }

    private static void raiseByText() {
        CrystalByTheMinute x = new CrystalByTheMinute();
        x.figure(0, 0, 900);
        x.figure(0, 0, 10);
        x.client(3, 3);
        x.force(Due.text(x, "prices 0;joys (means=999)*50+(means=109)*7+1;pays 0;"));
        due.is("999 at most", x.raise(999, 0), 0);
        due.is("joy", x.raise(999, 1), 51);
        due.is("by 99", x.raise(99, 1), 51);
        due.is("by 98", x.raise(98, 0), NONE);
        x.set(2, 0, 0);
        due.is("the text sees the means that would be", x.raise(99, 0), 1);
        due.is("joy", x.raise(99, 1), 8);
    }

    private static void dear() {
        CrystalByTheMinute x = new CrystalByTheMinute();
        x.figure(0, 0, 12);
        x.client(0, 0);
        due.is("dear: twice 5 is the most that 12 pay", x.dear(0), 2);
        due.is("income", x.dear(1), 10);
        x.client(0, 0);
        due.is("of like ones the least", x.dear(0), 1);
        due.is("income", x.dear(1), 10);
        x.set(2, 0, 44);
        due.is("four for both", x.dear(0), 4);
        due.is("income", x.dear(1), 40);
        x.set(0, 0, 7);
        due.is("whatever the rate is", x.dear(0), 4);
        due.is("the rate stays", x.told(0, 0), 7);
        x.set(2, 0, 999);
        due.is("nine", x.dear(0), 9);
        due.is("income", x.dear(1), 90);
        x.set(2, 0, 4);
        due.is("none", x.dear(0), 1);
        due.is("none", x.dear(1), 0);
    }

    private static void refused() {
        CrystalByTheMinute x = new CrystalByTheMinute();
        x.figure(0, 0, 12);
        x.client(0, 0);
        for (int bad : new int[] {-1, 2, Integer.MAX_VALUE, Integer.MIN_VALUE}) {
            due.is("few", x.few(bad), BAD);
            due.is("missed", x.missed(bad), NO_ANSWER);
            due.is("change", x.change(bad), NO_ANSWER);
            due.is("raise", x.raise(1, bad), NO_ANSWER);
            due.is("dear", x.dear(bad), NO_ANSWER);
        }
        due.is("k -1", x.raise(-1, 0), NO_ANSWER);
        due.is("k 1000", x.raise(1000, 0), NO_ANSWER);
    }
}
