/** Promises 7 to 9: feed, text, force; and what a text tells. */
final class TextsTest {
    private static final Due due = new Due("TextsTest");
    private static final int BAD = -2, FULL = -4;

    public static void main(String[] args) {
        feeding();
        reading();
        fullOfTexts();
        forcing();
        aTextBehindAFault();
        aTextBehindALongerOne();
        faults();
        strangeWords();
        openSigns();
        values();
        namesOfPrices();
        namesOfJoysAndPays();
        due.end();
    }

    private static void feeding() {
        CrystalByTheMinute x = new CrystalByTheMinute();
        due.is("feed(-1)", x.feed(-1), BAD);
        due.is("feed(256)", x.feed(256), BAD);
        due.is("none came", x.count(4), 0);
        for (int i = 1; i <= 160; i++) {
            due.is("feed", x.feed(i % 2 == 0 ? 0 : 255), i);
        }
        due.is("BAD ahead of FULL", x.feed(256), BAD);
        due.is("FULL", x.feed(32), FULL);
        due.is("160 bytes", x.count(4), 160);
        due.is("a fault at 0", x.text(), -100);
        due.is("empty by a fault, too", x.count(4), 0);
        due.is("room again", x.feed(32), 1);
    }

    private static void reading() {
        CrystalByTheMinute x = new CrystalByTheMinute();
        due.is("text 1", Due.text(x, "prices 1;joys 2;pays 3;"), 1);
        due.is("the tape is empty", x.count(4), 0);
        due.is("two texts", x.count(3), 2);
        due.is("a fault", Due.text(x, "prices 1;joys 2;pays;"), -120);
        due.is("two texts still", x.count(3), 2);
        due.is("text 2", Due.text(x, "\n prices\n0009;joys2;pays(3);\n "), 2);
        due.is("the rule is the first still", x.count(5), 0);
        StringBuilder longest = new StringBuilder("prices 1;joys 2;pays 3;");
        while (longest.length() < 160) {
            longest.append(' ');
        }
        due.is("text 3, of 160 bytes", Due.text(x, longest.toString()), 3);
    }

    private static void aTextBehindAFault() {
        CrystalByTheMinute x = new CrystalByTheMinute();
        x.figure(0, 0, 0);
        x.client(0, 1);
        due.is("a fault at its end", Due.text(x, "prices 7+1;joys 7;pays 7"), -100 - 24);
        due.is("a text", Due.text(x, "prices 2;joys 3;pays 4;"), 1);
        x.force(1);
        due.is("prices", x.told(0, 10), 2);
        due.is("joys", x.glad(0, 0, 0), 3);
        due.is("pays", x.glad(0, 0, 1), 4);
    }

    /** What stood on the tape before is not read any more. */
    private static void aTextBehindALongerOne() {
        for (String ahead : new String[] {"0", "a", " ", ";", "("}) {
            for (String text : new String[] {"prices 12", "prices hou", "prices 1 ", "prices 1;", "prices (", "prices"}) {
                CrystalByTheMinute x = new CrystalByTheMinute();
                Due.feed(x, ahead.repeat(160));
                x.text();
                int fault = text.endsWith("hou") ? 7 : text.length();
                due.is("'" + text + "' behind 160 times '" + ahead + "'", Due.text(x, text), -100 - fault);
            }
        }
    }

    private static void fullOfTexts() {
        CrystalByTheMinute x = new CrystalByTheMinute();
        for (int t = 1; t < 6; t++) {
            due.is("a text", Due.text(x, "prices " + t + ";joys 2;pays 3;"), t);
        }
        Due.feed(x, "prices");
        due.is("FULL ahead of a fault", x.text(), FULL);
        due.is("the tape stays", x.count(4), 6);
        due.is("six texts", x.count(3), 6);
        x.figure(0, 0, 0);
        for (int t = 1; t < 6; t++) {
            x.force(t);
            due.is("each text is as it was read", x.told(0, 10), t);
        }
    }

    private static void forcing() {
        CrystalByTheMinute x = new CrystalByTheMinute();
        due.is("force(1)", x.force(1), BAD);
        due.is("force(-1)", x.force(-1), BAD);
        due.is("force(0)", x.force(0), 0);
        Due.text(x, "prices 1;joys 2;pays 3;");
        due.is("force(1)", x.force(1), 0);
        due.is("the rule", x.count(5), 1);
        due.is("force(2)", x.force(2), BAD);
        due.is("force(6)", x.force(6), BAD);
        due.is("the rule", x.count(5), 1);
        due.is("force(0)", x.force(0), 1);
        Due.text(x, "prices x");
        due.is("no text came of a fault", x.force(2), BAD);
    }

    /** A text, with ! at the place of its fault. */
    private static void fault(String marked) {
        int place = marked.indexOf('!');
        String text = marked.substring(0, place) + marked.substring(place + 1);
        due.is("'" + text + "'", Due.text(new CrystalByTheMinute(), text), -100 - place);
    }

    private static void faults() {
        fault("!");
        fault("  \n!");
        fault("prices!");
        fault("prices  !");
        fault("prices 5!");
        fault("prices 5 ;!");
        fault("prices 5;joys 10;pays 8!");
        fault("prices 5;joys 10;pays 8 \n!");
        fault("prices 5;joys 10;pays 8;!;");
        fault("prices 5;joys 10;pays 8; !prices");
        fault("prices 5;joys 10;pays 8; !\t");
        fault("!joys 5;");
        fault("prices 5;!pays 1;");
        fault("!Prices 5;");
        fault("prices !;");
        fault("prices !prices;");
        fault("prices !or 1;");
        fault("prices 1 or !or 1;");
        fault("prices 1 and !;");
        fault("prices !hours;");
        fault("prices !hou;");
        fault("prices !pric");
        fault("!pricesjoys 5;");
        fault("!price");
        fault("prices !12345;");
        fault("prices 1234!hour;");
        fault("prices 1 !12345;");
        fault("prices 12!_4;");
        fault("prices 1 !2;");
        fault("prices 1 !(2);");
        fault("prices 1 + !+ 2;");
        fault("prices 1 < 2 !< 3;");
        fault("prices 1 = 2 !< 3;");
        fault("prices not 1 = 2 != 3;");
        fault("prices 1 < !not 2;");
        fault("prices 1 + !not 2;");
        fault("prices 1 * !not 2;");
        fault("prices - !not 2;");
        fault("prices 1 !not 2;");
        fault("prices (1!;");
        fault("prices 1!);");
        fault("prices (!);");
        fault("prices 1 < 2 and 3 < 4 or not 5 < 6 + (7!");
        fault("prices 5;joys 1 !& 2");
        fault("prices 5!,");
        fault("prices 5 !>");
        fault("prices 5 !" + (char) 0);
        fault("prices 5 !" + (char) 255);
        fault("prices 5 !\r;");
        fault("prices 1 or !;joys 1;pays 1;");
        fault("prices 1 and !;joys 1;pays 1;");
        fault("prices not !;joys 1;pays 1;");
        fault("prices 1 < !;joys 1;pays 1;");
        fault("prices 1 = !;joys 1;pays 1;");
        fault("prices 1 + !;joys 1;pays 1;");
        fault("prices 1 - !;joys 1;pays 1;");
        fault("prices 1 * !;joys 1;pays 1;");
        fault("prices - !;joys 1;pays 1;");
        fault("prices (!;joys 1;pays 1;");
        fault("prices (1!;joys 1;pays 1;");
    }

    private static void strangeWords() {
        fault("prices not !nor 1;joys 1;pays 1;");
        fault("prices (!x);joys 1;pays 1;");
        fault("prices -!x;joys 1;pays 1;");
        fault("prices !xot 1;joys 1;pays 1;");
        fault("!xrices 1;joys 1;pays 1;");
        fault("prices !xour;joys 1;pays 1;");
        fault("prices !hourz;joys 1;pays 1;");
        fault("prices !hourhour;joys 1;pays 1;");
        fault("prices 1 !o 1;joys 1;pays 1;");
        fault("prices 1 !orr 1;joys 1;pays 1;");
        fault("prices 1;!joy 1;pays 1;");
        fault("prices hour!Z;joys 1;pays 1;");
    }

    private static void openSigns() {
        String end = ";joys 1;pays 1;";
        CrystalByTheMinute x = new CrystalByTheMinute();
        due.is("five (", Due.text(x, "prices (((((1)))))" + end), 1);
        due.is("five -", Due.text(x, "prices -----1-----1" + end), 2);
        due.is("five not", Due.text(x, "prices not not not not not 1 and not not not not not 1" + end), 3);
        due.is("five of them, each closed", Due.text(x, "prices not(not(-1<(1))+((1)))*(((((1)))))-----1" + end), -100 - 34);
        due.is("two and two and one", Due.text(x, "prices not(not(-1<-1)+((1)))and(((((1)))))-----1" + end), 4);
        fault("prices ((((( !(1))))))" + end);
        fault("prices -----!-1" + end);
        fault("prices not not not not not !not 1" + end);
        fault("prices not(-(not !-(1))))" + end);
        fault("prices not not not not - !- 1" + end);
        fault("prices not 1 < ((((!(1))))) " + end);
        fault("prices 1-((((-!-1" + end);
        fault("prices (((((1-!-1" + end);
        fault("prices (((((1-1!" );
        fault("prices (((((!not 1" + end);
    }

    /** What an expression is, told by joys (-99 .. 99) of one who wished. */
    private static void value(String expression, int want) {
        CrystalByTheMinute x = new CrystalByTheMinute();
        x.figure(0, 3, 40);
        x.client(4, 1);
        due.is("text of " + expression, Due.text(x, "prices 0;joys " + expression + ";pays 0;"), 1);
        x.force(1);
        due.is(expression, x.glad(0, 0, 0), want);
    }

    private static void values() {
        value("7", 7);
        value("0099", 99);
        value("9999", 99);
        value("-9999", -99);
        value("1+2*3", 7);
        value("(1+2)*3", 9);
        value("10-3-2", 5);
        value("10-(3-2)", 9);
        value("2*3*4", 24);
        value("-2*-3", 6);
        value("--5", 5);
        value("1--5", 6);
        value("1+2<4", 1);
        value("4<1+2", 0);
        value("3<3", 0);
        value("3=3", 1);
        value("3=4", 0);
        value("0-5<0-4", 1);
        value("not 5", 0);
        value("not 0", 1);
        value("not not 5", 1);
        value("not 1<0", 1);
        value("not 1=2 and 5", 1);
        value("5 or 0", 1);
        value("0 or -7", 1);
        value("0 or 0", 0);
        value("5 and 7", 1);
        value("5 and 0", 0);
        value("0 and 0 or 1", 1);
        value("1 or 0 and 0", 1);
        value("(1 or 0) and 0", 0);
        value("(5 or 0)+(7 and 1)+1", 3);
        value("not 0+1", 0);
        value("(not 0)+1", 2);
        value("9999*9999*9999*9999", 99);
        value("9999*9999*9999", -99);
        value("9999*9999*22<0", 1);
        value("9999*9999*44<0", 0);
        for (int last = 5; last < 9; last++) {
            String nested = "0 or 1 and 6<0+1*" + last;
            for (int level = 0; level < 5; level++) {
                nested = "0 or 1 and 0<0+1*(" + nested + ")";
            }
            value(nested, last > 6 ? 1 : 0);
        }
        value("hour", 4);
        value("number", 3);
        value("means", 40);
        value("wished", 1);
        value("asked", 1);
        value("clients", 1);
    }

    private static void namesOfPrices() {
        CrystalByTheMinute x = new CrystalByTheMinute();
        x.figure(0, 3, 40);
        x.figure(0, 5, 60);
        x.client(4, 1);
        x.client(4, 3);
        x.client(5, 1);
        x.force(Due.text(x, "prices hour;joys 0;pays 0;"));
        due.is("hour", x.told(0, 10 + 11), 11);
        x.force(Due.text(x, "prices number*10+wished;joys 0;pays 0;"));
        due.is("number, wished 0", x.told(1, 10), 50);
        x.force(Due.text(x, "prices means;joys 0;pays 0;"));
        due.is("means", x.told(1, 10), 60);
        x.set(2, 1, 7);
        due.is("means", x.told(1, 10), 7);
        x.force(Due.text(x, "prices asked*10+clients;joys 0;pays 0;"));
        due.is("asked 3, clients 2", x.told(0, 14), 32);
        due.is("asked 1, clients 1", x.told(1, 15), 11);
        due.is("asked 1, clients 0", x.told(1, 16), 10);
    }

    private static void namesOfJoysAndPays() {
        CrystalByTheMinute x = new CrystalByTheMinute();
        x.figure(0, 3, 40);
        x.figure(0, 5, 6);
        x.client(4, 1);
        x.client(4, 3);
        x.client(5, 1);
        x.force(Due.text(x, "prices 0;joys hour*10+clients;pays wished*50+number*5+means;"));
        due.is("joys of 4, 2", x.glad(1, 1, 0), 42);
        due.is("joys of 5, 1", x.glad(2, 0, 0), 51);
        due.is("not wished", x.glad(2, 1, 0), 0);
        due.is("pays wished", x.glad(1, 1, 1), 81);
        due.is("pays, not wished", x.glad(0, 1, 1), 31);
        due.is("pays at the bound", x.glad(0, 0, 1), 99);
        x.force(Due.text(x, "prices 0;joys asked*10+wished;pays asked*10+hour+clients;"));
        due.is("asked, wished", x.glad(0, 0, 0), 31);
        due.is("asked, hour, clients", x.glad(2, 0, 1), 36);
    }
}
