/** Promises 10 to 12: show, take, showing. */
final class ShowingsTest {
    private static final Due due = new Due("ShowingsTest");
    private static final int NONE = -1, BAD = -2, STATE = -3, NO_ANSWER = -100000;

    public static void main(String[] args) {
        showing();
        showingStops();
        showRefused();
        taking();
        takeRefused();
        gladdestAndRichest();
        ties();
        plain();
        meansInTexts();
        due.end();
    }

    private static CrystalByTheMinute threeAndThree() {
        CrystalByTheMinute x = new CrystalByTheMinute();
        x.figure(0, 0, 12);
        x.figure(1, 0, 15);
        x.figure(2, 0, 4);
        x.client(2, 1);
        x.client(3, 3);
        x.client(4, 4);
        return x;
    }

    private static void showing() {
        CrystalByTheMinute x = threeAndThree();
        for (int sort = 0; sort < 3; sort++) {
            Due.sheet(x, sort, sort, 0, 1, 2);
            due.is("all of it can be", x.show(sort, 0), NONE);
            due.is("joy", x.show(sort, 1), 10 + 12 + 5);
            due.is("income", x.show(sort, 2), 13 + 18 + 10);
            due.is("left of 0", x.show(sort, 10), 7);
            due.is("left of 1", x.show(sort, 11), 5);
            due.is("left of 2", x.show(sort, 12), 2);
            Due.sheet(x, sort, sort, -1, -1, -1);
            due.is("fog always can", x.show(sort, 0), NONE);
            due.is("no joy of fog", x.show(sort, 1), 0);
            due.is("no income of fog", x.show(sort, 2), 0);
            due.is("left of 0", x.show(sort, 10), 12);
        }
        due.is("nothing was taken", x.count(2), 31);
    }

    private static void showingStops() {
        CrystalByTheMinute x = threeAndThree();
        Due.sheet(x, 0, 2, 1, 1, 2);
        due.is("no means left", x.show(0, 0), 1);
        due.is("joy ahead", x.show(0, 1), 2);
        due.is("income ahead", x.show(0, 2), 10);
        due.is("left then", x.show(0, 11), 5);
        due.is("left then, not of those behind", x.show(0, 12), 4);
        x.set(4, 0, 6);
        due.is("does not appear", x.show(0, 0), 0);
        due.is("no joy ahead", x.show(0, 1), 0);
        due.is("left then", x.show(0, 11), 15);
        x.set(4, 0, 2);
        x.set(2, 1, 20);
        due.is("means to the last", x.show(0, 0), NONE);
        due.is("none left", x.show(0, 11), 0);
        x.set(3, 2, 4095 - 16);
        due.is("not up", x.show(0, 0), 2);
    }

    private static void showRefused() {
        CrystalByTheMinute x = threeAndThree();
        Due.sheet(x, 0, 0, 0, 1, 2);
        Due.sheet(x, 1, 0, 0, 1);
        Due.sheet(x, 2, 0, 0, 1, 3);
        due.is("sheet -1", x.show(-1, 0), NO_ANSWER);
        due.is("sheet 4", x.show(4, 0), NO_ANSWER);
        due.is("missing", x.show(3, 0), NO_ANSWER);
        due.is("too few", x.show(1, 0), NO_ANSWER);
        due.is("no figure", x.show(2, 0), NO_ANSWER);
        x.cell(2, 2, -2);
        due.is("neither figure nor fog", x.show(2, 0), NO_ANSWER);
        for (int what : new int[] {-1, 3, 9, 13, 16, Integer.MAX_VALUE, Integer.MIN_VALUE}) {
            due.is("what " + what, x.show(0, what), NO_ANSWER);
        }
        Due.sheet(x, 1, 0, 0, 1, 2, -1);
        due.is("too many", x.show(1, 0), NO_ANSWER);
    }

    private static void taking() {
        CrystalByTheMinute x = threeAndThree();
        Due.sheet(x, 0, 1, 0, 1, 2);
        due.is("take", x.take(0), 41);
        due.is("left of 0", x.told(0, 2), 7);
        due.is("left of 1", x.told(1, 2), 5);
        due.is("left of 2", x.told(2, 2), 2);
        due.is("a second time", x.take(0), STATE);
        due.is("left of 0", x.told(0, 2), 7);
        due.is("left of 1", x.told(1, 2), 5);
        Due.sheet(x, 0, 1, -1, -1, 2);
        due.is("take fog, too", x.take(0), 10);
        due.is("none left", x.told(2, 2), 0);
        due.is("it can't be", x.take(0), STATE);
    }

    private static void takeRefused() {
        CrystalByTheMinute x = threeAndThree();
        Due.sheet(x, 0, 0, 0, 1, 3);
        Due.sheet(x, 1, 0, 0, 1);
        String before = Due.state(x);
        due.is("sheet -1", x.take(-1), BAD);
        due.is("sheet 4", x.take(4), BAD);
        due.is("missing", x.take(3), -11);
        due.is("no figure", x.take(0), BAD);
        due.is("too few", x.take(1), BAD);
        Due.sheet(x, 1, 0, 1, 1, 9);
        due.is("BAD ahead of STATE", x.take(1), BAD);
        due.is("nothing changed", before.equals(Due.state(x)) ? 1 : 0, 1);
    }

    private static void gladdestAndRichest() {
        CrystalByTheMinute x = new CrystalByTheMinute();
        x.figure(0, 0, 5);
        x.figure(4, 0, 0);
        x.figure(5, 0, 9);
        x.client(0, 7);
        x.client(0, 7);
        due.is("gladdest", x.showing(0, 0), 13);
        due.is("its joy", x.showing(0, 1), 11);
        due.is("its income", x.showing(0, 2), 5 + 8 + 5 + 8);
        due.is("richest: the first of like ones", x.showing(1, 0), 13);
        x.set(2, 2, 4);
        due.is("gladdest: fog ahead", x.showing(0, 0), 1);
        due.is("its joy", x.showing(0, 1), 10);
        due.is("richest: a burglar, though none is glad", x.showing(1, 0), 12);
        due.is("its joy", x.showing(1, 1), 6);
        due.is("its income", x.showing(1, 2), 21);
        for (int bad : new int[] {-1, 3, Integer.MAX_VALUE}) {
            due.is("how", x.showing(bad, 0), NO_ANSWER);
            due.is("what", x.showing(0, bad), NO_ANSWER);
        }
    }

    private static void ties() {
        CrystalByTheMinute x = new CrystalByTheMinute();
        x.figure(0, 0, 5);
        x.figure(0, 0, 5);
        x.client(0, 3);
        x.client(0, 3);
        x.client(0, 3);
        due.is("fog to the first client, then by numbers", x.showing(0, 0), 12);
        due.is("likewise", x.showing(1, 0), 12);
        due.is("plain: fog to the last", x.showing(2, 0), 120);
        x.set(5, 1, 0);
        due.is("no joy: fog", x.showing(0, 0), 102);
        due.is("likewise", x.showing(1, 0), 102);
    }

    private static void plain() {
        CrystalByTheMinute x = new CrystalByTheMinute();
        x.figure(4, 0, 0);
        x.figure(0, 0, 9);
        x.figure(0, 0, 9);
        x.client(0, 7);
        x.client(1, 7);
        x.client(1, 7);
        x.client(1, 7);
        x.client(1, 0);
        due.is("plain", x.showing(2, 0), 12300);
        due.is("joy", x.showing(2, 1), -4 + 10 + 10);
        due.is("income", x.showing(2, 2), 8 + 13 + 13);
    }

    private static void meansInTexts() {
        CrystalByTheMinute x = new CrystalByTheMinute();
        x.figure(0, 0, 20);
        x.client(0, 1);
        x.client(0, 1);
        x.client(0, 1);
        x.force(Due.text(x, "prices means-12;joys means;pays means;"));
        Due.sheet(x, 0, 0, 0, 0, 0);
        due.is("prices by means as they truly are, not as they are left", x.show(0, 0), 2);
        due.is("joy", x.show(0, 1), 40);
        due.is("income", x.show(0, 2), 56);
        due.is("left", x.show(0, 10), 4);
        Due.sheet(x, 0, 0, 0, 0, -1);
        due.is("take", x.take(0), 56);
        due.is("now they truly are fewer", x.told(0, 10), 0);
    }
}
