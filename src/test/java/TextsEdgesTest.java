/** Boundary cases of promises 7 to 9, sentence by sentence; each test stands below the words that it holds to. */
final class TextsEdgesTest {
    private static final Due due = new Due("TextsEdgesTest");
    private static final int BAD = Edges.BAD, FULL = Edges.FULL, MAX = Edges.MAX, MIN = Edges.MIN;
    private static final String REST = ";joys 1;pays 1;";

    public static void main(String[] args) {
        promise7TheLastTaken();
        promise7TheFirstNotTaken();
        promise7FullTape();
        promise7RoomAgain();
        promise8ItsNumber();
        promise8TheTapeIsEmptyThen();
        promise8NothingIsLeftOfAFault();
        promise8FullAheadOfAll();
        promise8TheLongest();
        promise8TooEarly();
        promise8Bytes();
        promise8Blanks();
        promise8Words();
        promise8Numbers();
        promise8AsLongAsCanBe();
        promise8OrderOfParts();
        promise8KeysAreNoNames();
        promise8MoreIsDue();
        promise8OneComparison();
        promise8NotAheadOfSums();
        promise8FiveOpen();
        promise8OpenTillItsEnd();
        promise8TheFirstFault();
        promise8Wrapping();
        promise8OneOrZero();
        promise8Order();
        promise9TheLastTaken();
        promise9TheFirstNotTaken();
        promise9WhichWas();
        due.end();
    }

    // ---- promise 7

    /** "A byte (0 .. 255) comes behind THE TAPE: how many it has." */
    private static void promise7TheLastTaken() {
        CrystalByTheMinute x = new CrystalByTheMinute();
        int[] bytes = {0, 255, 1, 254, 32, 10, 127, 128};
        for (int i = 0; i < bytes.length; i++) {
            due.is("promise 7: feed(" + bytes[i] + ")", x.feed(bytes[i]), i + 1);
            due.is("promise 7: bytes of THE TAPE", x.count(4), i + 1);
        }
    }

    /** "BAD; FULL." */
    private static void promise7TheFirstNotTaken() {
        for (int letter : new int[] {-1, 256, 288, -224, MIN, MAX}) {
            Edges.leaves(due, "promise 7: feed(" + letter + ")", Edges::small, x -> x.feed(letter), BAD);
            Edges.leaves(due, "promise 7: feed(" + letter + ") first", Edges::empty, x -> x.feed(letter), BAD);
            // "BAD; FULL." decides: the first that the call's words name
            Edges.leaves(due, "promise 7: feed(" + letter + ") behind 160", Edges::fullTape, x -> x.feed(letter), BAD);
        }
    }

    /** Terms: "THE TAPE (160 bytes at most)". */
    private static void promise7FullTape() {
        CrystalByTheMinute x = new CrystalByTheMinute();
        for (int i = 1; i <= 160; i++) {
            due.is("promise 7: feed(32)", x.feed(32), i);
        }
        due.is("promise 7: the byte behind 160", x.feed(32), FULL);
        Edges.leaves(due, "promise 7: feed(0) behind 160", Edges::fullTape, y -> y.feed(0), FULL);
        Edges.leaves(due, "promise 7: feed(255) behind 160", Edges::fullTape, y -> y.feed(255), FULL);
        Edges.leaves(due, "promise 7: feed(';') behind 160", Edges::fullTape, y -> y.feed(';'), FULL);
    }

    /** What makes THE TAPE empty (promise 8) makes room; what leaves it doesn't. */
    private static void promise7RoomAgain() {
        CrystalByTheMinute x = Edges.fullTape();
        due.is("promise 7: text()", x.text(), 1);
        due.is("promise 7: room behind a TEXT", x.feed(0), 1);
        Due.feed(x, " ".repeat(159));
        due.is("promise 7: no room", x.feed(32), FULL);
        due.is("promise 7: text()", x.text(), -100);
        due.is("promise 7: room behind a FAULT", x.feed(0), 1);
        CrystalByTheMinute y = Edges.fullOfTexts();
        Due.feed(y, " ".repeat(160 - y.count(4)));
        due.is("promise 7: no room", y.feed(32), FULL);
        due.is("promise 7: text() has no room for it", y.text(), FULL);
        due.is("promise 7: no room still", y.feed(32), FULL);
    }

    // ---- promise 8

    /** "is a TEXT: its number"; Terms: "6 TEXTS at most, TEXT 0 with them". */
    private static void promise8ItsNumber() {
        CrystalByTheMinute x = new CrystalByTheMinute();
        for (int t = 1; t <= 5; t++) {
            due.is("promise 8: a FAULT takes no number", Due.text(x, "prices"), -106);
            due.is("promise 8: the next TEXT", Due.text(x, "prices " + t + REST), t);
            due.is("promise 8: how many", x.count(3), t + 1);
            due.is("promise 8: THE RULE is as it was", x.count(5), 0);
        }
        due.is("promise 8: the seventh", Due.text(x, "prices 7" + REST), FULL);
        x.figure(0, 0, 0);
        for (int t = 0; t <= 5; t++) {
            x.force(t);
            due.is("promise 8: TEXT " + t, x.told(0, 10), t == 0 ? 5 : t);
        }
    }

    /** "THE TAPE, which is empty then (by a FAULT, too)" */
    private static void promise8TheTapeIsEmptyThen() {
        CrystalByTheMinute x = new CrystalByTheMinute();
        due.is("promise 8: text() of an empty tape ends too early", x.text(), -100);
        due.is("promise 8: text() again", x.text(), -100);
        due.is("promise 8: a TEXT", Due.text(x, "prices 1" + REST), 1);
        due.is("promise 8: empty then", x.count(4), 0);
        due.is("promise 8: nothing is there to be a TEXT again", x.text(), -100);
        due.is("promise 8: a FAULT", Due.text(x, "prices 1;joys 1;pays 1"), -122);
        due.is("promise 8: empty then", x.count(4), 0);
        due.is("promise 8: what was fed before a FAULT is gone", Due.text(x, ";"), -100);
        due.is("promise 8: two TEXTS", x.count(3), 2);
    }

    /** A TEXT behind a FAULT is what its own bytes say, however much of the FAULT's text could be read. */
    private static void promise8NothingIsLeftOfAFault() {
        String[] faults = {"prices 7+1;joys 7;pays 7", "prices 7;joys 7-", "prices 7;", "prices 7 7", "prices -(-(7;", "prices 1;joys 1;pays --1", ""};
        for (String fault : faults) {
            CrystalByTheMinute x = new CrystalByTheMinute();
            x.figure(0, 0, 0);
            x.client(0, 1);
            due.is("promise 8: '" + fault + "'", Due.text(x, fault) <= -100 ? 1 : 0, 1);
            due.is("promise 8: a TEXT behind '" + fault + "'", Due.text(x, "prices 2;joys 3;pays 4;"), 1);
            x.force(1);
            due.is("promise 8: prices behind '" + fault + "'", x.told(0, 10), 2);
            due.is("promise 8: joys behind '" + fault + "'", x.glad(0, 0, 0), 3);
            due.is("promise 8: pays behind '" + fault + "'", x.glad(0, 0, 1), 4);
        }
    }

    /** "FULL (ahead of all): no TEXT more has room (THE TAPE stays)." */
    private static void promise8FullAheadOfAll() {
        Edges.leaves(due, "promise 8: text(), a seventh", Edges::fullOfTexts, x -> x.text(), FULL);
        // FULL decides, ahead of the FAULT that THE TAPE has
        Edges.leaves(due, "promise 8: text(), a FAULT", () -> fullAnd("&"), x -> x.text(), FULL);
        CrystalByTheMinute x = fullAnd("");
        due.is("promise 8: text() of a full house", x.text(), FULL);
        due.is("promise 8: THE TAPE stays", x.count(4), 23);
        CrystalByTheMinute y = new CrystalByTheMinute();
        for (int t = 1; t < 6; t++) {
            Due.text(y, "prices 1" + REST);
        }
        // FULL decides, though an empty tape ends too early
        due.is("promise 8: text() of an empty tape", y.text(), FULL);
        due.is("promise 8: none came", y.count(4), 0);
        due.is("promise 8: six", y.count(3), 6);
    }

    private static CrystalByTheMinute fullAnd(String more) {
        CrystalByTheMinute x = Edges.fullOfTexts();
        Due.feed(x, more);
        return x;
    }

    /** Terms: "THE TAPE (160 bytes at most)": it decides how long a TEXT can be, and all of that is read. */
    private static void promise8TheLongest() {
        StringBuilder ones = new StringBuilder("prices 1");
        while (ones.length() + 2 + REST.length() <= 159) {
            ones.append("+1");
        }
        String longest = ones + " ;joys 1;pays 1;";
        due.is("promise 8: its size", longest.length(), 160);
        CrystalByTheMinute x = new CrystalByTheMinute();
        x.figure(0, 0, 0);
        due.is("promise 8: 160 bytes", Due.text(x, longest), 1);
        x.force(1);
        due.is("promise 8: so many ones", x.told(0, 10), (159 - REST.length() - 8) / 2 + 1);
        // the byte behind 160 does not come (FULL of promise 7 decides), so its TEXT ends too early
        due.is("promise 8: 161 bytes", Due.text(new CrystalByTheMinute(), " " + longest), -260);
        due.is("promise 8: 159 bytes", Due.text(new CrystalByTheMinute(), longest.substring(0, 159)), -259);
        due.is("promise 8: blanks to the end", Due.text(new CrystalByTheMinute(), Edges.padded("prices 1" + REST, 160)), 1);
        due.is("promise 8: blanks ahead", Due.text(new CrystalByTheMinute(), "\n".repeat(160 - 23) + "prices 1" + REST), 1);
        due.is("promise 8: a FAULT at the last byte", Due.text(new CrystalByTheMinute(), Edges.padded("prices 1" + REST, 159) + ";"), -259);
        due.is("promise 8: blanks alone", Due.text(new CrystalByTheMinute(), " ".repeat(160)), -260);
        due.is("promise 8: a WORD of 160", Due.text(new CrystalByTheMinute(), "a".repeat(160)), -100);
        due.is("promise 8: a NUMBER of 153", Due.text(new CrystalByTheMinute(), "prices " + "9".repeat(153)), -107);
    }

    /** "FAULT: .. (the text's size, if it ends too early)": behind each token of a text, and behind blanks there. */
    private static void promise8TooEarly() {
        String[] tokens = {"prices", "not", "(", "hour", "<", "-", "1", ")", "and", "2", "*", "3", "or", "asked", "+",
            "4", ";", "joys", "wished", "=", "5", ";", "pays", "clients", "-", "number"};
        StringBuilder text = new StringBuilder();
        due.fault("promise 8: too early", "!");
        due.fault("promise 8: too early", " !");
        due.fault("promise 8: too early", "\n !");
        for (String token : tokens) {
            text.append(token);
            due.fault("promise 8: too early", text + "!");
            due.fault("promise 8: too early", text + " \n!");
            text.append(' ');
        }
        due.is("promise 8: with its last token", Due.text(new CrystalByTheMinute(), text + ";"), 1);
    }

    /** "also of a byte that begins none": each of 256, where a TEXT begins, where it has ended, and within a SUM. */
    private static void promise8Bytes() {
        for (int b = 0; b < 256; b++) {
            char c = (char) b;
            boolean isBlank = b == 32 || b == 10;
            String call = "promise 8: byte " + b;
            due.is(call + " ahead of a TEXT", Due.text(new CrystalByTheMinute(), c + "prices 1" + REST), ahead(b));
            due.is(call + " behind a TEXT", Due.text(new CrystalByTheMinute(), "prices 1" + REST + c), isBlank ? 1 : -123);
            due.is(call + " within a SUM", Due.text(new CrystalByTheMinute(), "prices 12" + c + "1" + REST), within(b));
        }
    }

    /** Of "?prices 1;..": a letter makes a WORD of it that is no KEY; what is no blank can't stand first. */
    private static int ahead(int b) {
        return b == 32 || b == 10 ? 1 : -100;
    }

    /** Of "prices 12?1;..": a digit makes it one NUMBER of four; behind a blank or a ; the 1 can't stand. */
    private static int within(int b) {
        if (b >= '0' && b <= '9' || "+-*<=".indexOf(b) >= 0) {
            return 1;
        }
        return b == 32 || b == 10 || b == ';' ? -110 : -109;
    }

    /** "blanks (32, 10) may stand between": between all, none at all, many; not within; no others (9, 11, 12, 13, 160). */
    private static void promise8Blanks() {
        String spaced = "prices not ( 1 < 2 ) or hour and - 3 * 4 + 5 = 6 - 7 ; joys 1 ; pays 1 ;";
        due.is("promise 8: blanks between", Due.text(new CrystalByTheMinute(), spaced), 1);
        due.is("promise 8: lines between", Due.text(new CrystalByTheMinute(), spaced.replace(" ", "\n")), 1);
        due.is("promise 8: two between", Due.text(new CrystalByTheMinute(), spaced.replace(" ", "\n ")), 1);
        due.is("promise 8: none but between WORDS", Due.text(new CrystalByTheMinute(),
                "prices not(1<2)or hour and-3*4+5=6-7;joys 1;pays 1;"), 1);
        due.is("promise 8: none at all", Due.text(new CrystalByTheMinute(), "prices1or0and2;joys(1);pays-1;"), 1);
        due.fault("promise 8: within a WORD", "!pri ces 1" + REST);
        due.fault("promise 8: within a NAME", "prices !ho ur" + REST);
        due.fault("promise 8: within a NUMBER", "prices 1 !2" + REST);
        for (int b : new int[] {9, 11, 12, 13, 31, 33, 160}) {
            due.fault("promise 8: byte " + b + " is no blank", "prices!" + (char) b + "1" + REST);
        }
    }

    /** "a WORD that is neither KEY nor NAME": one letter less, one more, another one; each at the WORD's first byte. */
    private static void promise8Words() {
        for (String name : new String[] {"hour", "number", "means", "wished", "asked", "clients"}) {
            due.is("promise 8: " + name, Due.text(new CrystalByTheMinute(), "prices " + name + REST), 1);
            due.fault("promise 8:", "prices !" + name + "s" + REST);
            due.fault("promise 8:", "prices !" + name.substring(0, name.length() - 1) + REST);
            due.fault("promise 8:", "prices !" + name.substring(1) + REST);
            due.fault("promise 8:", "prices !a" + name + REST);
            due.fault("promise 8:", "prices !x" + name.substring(1) + REST);
            due.fault("promise 8:", "prices !" + name.substring(0, name.length() - 1) + "x" + REST);
            due.fault("promise 8:", "prices !" + name + "a" + REST);
            due.fault("promise 8:", "prices !" + name + "z" + REST);
            for (String ahead : new String[] {"not ", "-", "(", "1+", "1 or ", "1 and not "}) {
                due.fault("promise 8:", "prices " + ahead + "!x" + name + REST);
                due.fault("promise 8:", "prices " + ahead + "!nott " + name + REST);
            }
            due.fault("promise 8:", "prices !" + name + name + REST);
            due.fault("promise 8:", "prices !" + name.toUpperCase() + REST);
            due.fault("promise 8:", "prices " + name + " !" + name + REST);
        }
        String[] keys = {"!price 1" + REST, "!pricess 1" + REST, "prices 1;!joy 1;pays 1;", "prices 1;!joyss 1;pays 1;",
            "prices 1;joys 1;!pay 1;", "prices 1;joys 1;!payss 1;", "prices 1 !o 1" + REST, "prices 1 !orr 1" + REST,
            "prices 1 !an 1" + REST, "prices 1 !andd 1" + REST, "prices !no 1" + REST, "prices !nott 1" + REST, "!Prices 1" + REST};
        for (String marked : keys) {
            due.fault("promise 8:", marked);
        }
    }

    /** "NUMBERS (as many digits as stand there, 4 at most)", "a NUMBER that is too long". */
    private static void promise8Numbers() {
        for (String number : new String[] {"0", "9", "00", "0000", "0001", "9999"}) {
            due.is("promise 8: " + number, Due.text(new CrystalByTheMinute(), "prices " + number + REST), 1);
        }
        for (String number : new String[] {"00000", "00001", "10000", "99999", "123456789012", "4294967297"}) {
            due.fault("promise 8:", "prices !" + number + REST);
            due.fault("promise 8:", "prices 1+!" + number + REST);
            // the first TOKEN that can't stand there decides: a NUMBER behind a ONE, too long or not
            due.fault("promise 8:", "prices 1 !" + number + REST);
        }
        CrystalByTheMinute x = new CrystalByTheMinute();
        x.figure(0, 0, 0);
        x.force(Due.text(x, "prices 0098" + REST));
        due.is("promise 8: 0098", x.told(0, 10), 98);
        x.force(Due.text(x, "prices 9999-9901" + REST));
        due.is("promise 8: 9999-9901", x.told(0, 10), 98);
        // "- ONE": a NUMBER of four digits behind a - is one of four digits
        x.force(Due.text(x, "prices -9998+9999" + REST));
        due.is("promise 8: -9998+9999", x.told(0, 10), 1);
    }

    /** "TOKENS, each as long as can be" */
    private static void promise8AsLongAsCanBe() {
        due.is("promise 8: digits end a WORD", Due.text(new CrystalByTheMinute(), "prices not1or2and3" + REST), 1);
        due.is("promise 8: letters end a NUMBER", Due.text(new CrystalByTheMinute(), "prices 1or hour" + REST), 1);
        due.fault("promise 8:", "prices !notnot 1" + REST);
        due.fault("promise 8:", "prices 1 !orhour" + REST);
        due.fault("promise 8:", "!priceshour" + REST);
        due.fault("promise 8:", "prices hour!1" + REST);
        due.fault("promise 8:", "prices 1!hour" + REST);
        due.fault("promise 8:", "prices 1<!=2" + REST);
        due.fault("promise 8:", "prices 1*!*2" + REST);
        due.is("promise 8: each SIGN is one", Due.text(new CrystalByTheMinute(), "prices ((1))--1<-(1)" + REST), 1);
    }

    /** "TEXT: prices E ; joys E ; pays E ;": in this order, each once, nothing behind. */
    private static void promise8OrderOfParts() {
        due.fault("promise 8:", "!joys 1;prices 1;pays 1;");
        due.fault("promise 8:", "!pays 1;joys 1;prices 1;");
        due.fault("promise 8:", "prices 1;!prices 1;joys 1;pays 1;");
        due.fault("promise 8:", "prices 1;!pays 1;joys 1;");
        due.fault("promise 8:", "prices 1;joys 1;!joys 1;pays 1;");
        due.fault("promise 8:", "prices 1;joys 1;!prices 1;");
        due.fault("promise 8:", "prices 1;joys 1;pays 1;!pays 1;");
        due.fault("promise 8:", "prices 1;joys 1;pays 1;!;");
        due.fault("promise 8:", "prices 1;!;joys 1;pays 1;");
        due.fault("promise 8:", "!;prices 1;joys 1;pays 1;");
        due.fault("promise 8:", "prices !;joys 1;pays 1;");
        due.fault("promise 8:", "prices 1;joys !;pays 1;");
        due.fault("promise 8:", "prices 1;joys 1;pays !;");
        due.fault("promise 8:", "prices 1 !joys 1;pays 1;");
        due.fault("promise 8:", "prices 1;joys 1 !pays 1;");
        due.fault("promise 8:", "!1");
        due.fault("promise 8:", "!hour");
        due.fault("promise 8:", "!(prices 1)" + REST);
    }

    /** "prices, joys, pays, or, and, not are KEYS": none is a ONE. */
    private static void promise8KeysAreNoNames() {
        for (String key : new String[] {"prices", "joys", "pays", "or", "and"}) {
            for (String ahead : new String[] {"", "not ", "-", "(", "1+", "1-", "1*", "1<", "1=", "1 and ", "1 or "}) {
                due.fault("promise 8:", "prices " + ahead + "!" + key + REST);
            }
        }
        for (String key : new String[] {"prices", "joys", "pays", "not"}) {
            due.fault("promise 8:", "prices 1 !" + key + REST);
        }
    }

    /** Behind each sign and KEY that asks for more no ; and no ) can stand, nor a sign that asks for something ahead of it. */
    private static void promise8MoreIsDue() {
        for (String ahead : new String[] {"", "1 or ", "1 and ", "not ", "1<", "1=", "1+", "1-", "1*", "-", "("}) {
            for (String token : new String[] {";", ")", "+", "*", "<", "=", "or", "and"}) {
                due.fault("promise 8:", "prices " + ahead + "!" + token + "1" + REST);
                due.fault("promise 8:", "prices 1;joys 1;pays (" + ahead + "!" + token + "1);");
            }
        }
        for (String behind : new String[] {"(", "not", "prices", "1", "hour"}) {
            due.fault("promise 8:", "prices 1 !" + behind + REST);
            due.fault("promise 8:", "prices (1) !" + behind + REST);
        }
    }

    /** "NOT: not NOT, or SUM, perhaps < or = and a SUM": once at most on a level. */
    private static void promise8OneComparison() {
        for (String first : new String[] {"<", "="}) {
            for (String second : new String[] {"<", "="}) {
                due.fault("promise 8:", "prices 1" + first + "2!" + second + "3" + REST);
                due.fault("promise 8:", "prices not 1" + first + "2!" + second + "3" + REST);
                due.fault("promise 8:", "prices (1" + first + "2!" + second + "3)" + REST);
                due.is("promise 8: each in its own NOT", Due.text(new CrystalByTheMinute(),
                        "prices 1" + first + "2 and 1" + second + "2 or 1" + first + "2" + REST), 1);
                due.is("promise 8: by ( )", Due.text(new CrystalByTheMinute(),
                        "prices (1" + first + "2)" + second + "(3" + first + "4)" + REST), 1);
            }
        }
    }

    /** "SUM: TERM ..; TERM: ONE ..; ONE: .. - ONE": a not stands ahead of a NOT alone. */
    private static void promise8NotAheadOfSums() {
        for (String ahead : new String[] {"-", "--", "1+", "1-", "1*", "1<", "1=", "not 1+", "not -"}) {
            due.fault("promise 8:", "prices " + ahead + "!not 1" + REST);
            due.is("promise 8: in ( )", Due.text(new CrystalByTheMinute(), "prices " + ahead + "(not 1)" + REST), 1);
        }
        for (String ahead : new String[] {"", "not ", "(", "1 and ", "1 or ", "not not 1 and "}) {
            String end = ahead.equals("(") ? ")" : "";
            due.is("promise 8: not", Due.text(new CrystalByTheMinute(), "prices " + ahead + "not 1" + end + REST), 1);
        }
        due.fault("promise 8:", "prices 1+!+2" + REST);
        due.fault("promise 8:", "prices !+2" + REST);
        due.fault("promise 8:", "prices !*2" + REST);
        due.fault("promise 8:", "prices 1-!*2" + REST);
        due.fault("promise 8:", "prices (!)" + REST);
        due.fault("promise 8:", "prices 1!(2)" + REST);
        due.fault("promise 8:", "prices (1)!(2)" + REST);
        due.fault("promise 8:", "prices 1!)" + REST);
        due.fault("promise 8:", "prices (1)!)" + REST);
        due.fault("promise 8:", "prices (1!;joys 1;pays 1;");
    }

    /** "a ( , a not, a - ahead of a ONE while 5 of these are open": all orders of five, and each of the three as a sixth. */
    private static void promise8FiveOpen() {
        String[] openers = {"(", "not ", "-"};
        for (int order = 0; order < 243; order++) {
            String ahead = "";
            String behind = "";
            boolean canStand = true;
            int rest = order;
            for (int i = 0; i < 5; i++) {
                String opener = openers[rest % 3];
                // a not can't stand behind a - , of whatever depth
                canStand &= !(opener.equals("not ") && ahead.endsWith("-"));
                ahead += opener;
                behind += opener.equals("(") ? ")" : "";
                rest /= 3;
            }
            if (canStand) {
                due.is("promise 8: five open: " + ahead, Due.text(new CrystalByTheMinute(), "prices " + ahead + "1" + behind + REST), 1);
                for (String sixth : openers) {
                    due.fault("promise 8: a sixth:", "prices " + ahead + "!" + sixth + "1" + REST);
                }
                // a - that is not ahead of a ONE opens nothing
                due.is("promise 8: a SUM within five: " + ahead, Due.text(new CrystalByTheMinute(), "prices " + ahead + "1-1+1*1" + behind + REST), 1);
                // "- till what they belong to ends": a - that has its ONE is open no more
                if (!ahead.endsWith("-")) {
                    due.fault("promise 8: a sixth:", "prices " + ahead + "1-!-1" + REST);
                }
            }
        }
    }

    /** "(a ( till its ) , not and - till what they belong to ends)" */
    private static void promise8OpenTillItsEnd() {
        String[] taken = {"(((((1)))))", "(((((1)))))+(((((1)))))", "(((((1)))))*-----1", "-----1*-----1", "-----1-----1-----1",
            "not not not not not 1 and not not not not not 1", "not not not not not 1 or (((((1)))))", "-((((1))))*(((((1)))))",
            "-((((1))))<(((((1)))))", "not ((((1)))) and (((((1)))))", "not 1<((((1))))", "not 1*((((1))))-((((1))))",
            "((((-1)-1)-1)-1)-(((((1)))))", "not not not not (1) and (((((1)))))", "(not(not not 1))and(((((1)))))",
            "1-----1", "1------1", "(1)+(2)+(3)+(4)+(5)+(6)+(7)", "-1-1-1-1-1-1-1-1", "-1*-1*-1*-1*-1*-1*-1", "not 1 and not 1 and not 1 and not 1 and not 1 and not 1"};
        for (String e : taken) {
            due.is("promise 8: " + e, Due.text(new CrystalByTheMinute(), "prices " + e + REST), 1);
        }
        String[] faults = {"(((((1)))))+(((((!(1))))))", "-----1*-----!-1", "1------!-1", "not 1<((((!(1)))))",
            "not 1=((((!-1))))", "not 1*((((!(1)))))", "not 1+1-((((!-1))))", "not not 1<(((!(1))))", "(1+((((!(1))))))",
            "(1 and ((((!(1))))))", "(1 or not (((!not 1))))", "-((((!(1)))))", "-((((!-1))))", "--(((!(1))))",
            "not -(((!(1))))", "(not(not(!not 1)))", "(((((1)*(!(1)"};
        for (String e : faults) {
            due.fault("promise 8:", "prices " + e + REST);
        }
        // each part begins with nothing open
        due.is("promise 8: of each part", Due.text(new CrystalByTheMinute(), "prices (((((1)))));joys -----1;pays not not not not not 1;"), 1);
        due.fault("promise 8:", "prices (((((1)))));joys -----!-1;pays 1;");
        due.fault("promise 8:", "prices (((((1)))));joys -----1;pays not not not not not !not 1;");
    }

    /** "the place of the first byte of the first TOKEN that can't stand there": of two FAULTS the first. */
    private static void promise8TheFirstFault() {
        due.fault("promise 8:", "prices !& joys" + REST);
        due.fault("promise 8:", "prices 1 !2 12345" + REST);
        due.fault("promise 8:", "prices !12345 & hours" + REST);
        due.fault("promise 8:", "prices hour !hours &" + REST);
        due.fault("promise 8:", "prices (((((!(&" + REST);
        due.fault("promise 8:", "prices (((((!&(" + REST);
        due.fault("promise 8:", "prices 1 <!< 2" + REST);
        // what stands behind a whole TEXT can't stand there, whatever it is
        due.fault("promise 8:", "prices 1" + REST + "!12345");
        due.fault("promise 8:", "prices 1" + REST + " \n!prices 1" + REST);
        due.fault("promise 8:", "prices 1" + REST + "!" + (char) 255);
    }

    /** What an expression is, told by joys: -99 .. 99, else the bound. */
    private static void value(String expression, int want) {
        CrystalByTheMinute x = new CrystalByTheMinute();
        x.figure(0, 0, 0);
        x.client(0, 1);
        due.is("promise 8: text of " + expression, Due.text(x, "prices 0;joys " + expression + ";pays 0;"), 1);
        x.force(1);
        due.is("promise 8: " + expression, x.glad(0, 0, 0), want);
    }

    /** "An E is an int (32 bits, wrapping)" */
    private static void promise8Wrapping() {
        String most = "(2147*1000*1000+483*1000+647)";
        String least = "(2147*1000*1000+483*1000+648)";
        value(most, 99);
        value(least, -99);
        value(most + "-2000*1000*1000-147*1000*1000-483*1000-600", 47);
        value(least + "=-" + most + "-1", 1);
        value(most + "+1=" + least, 1);
        value(least + "-1=" + most, 1);
        value("-" + least + "=" + least, 1);
        value(most + "+1<0", 1);
        value(least + "-1<0", 0);
        value(least + "<" + most, 1);
        value(most + "<" + least, 0);
        value(most + "*2", -2);
        value(least + "*2", 0);
        value(most + "*" + most, 1);
        value(least + "*" + least, 0);
        value("0-" + least + "<0", 1);
        value("4096*4096*256", 0);
        value("4096*4096*256+7", 7);
    }

    /** "of or, and, not, <, = 1 or 0 (what is not 0 is true)" */
    private static void promise8OneOrZero() {
        String[] truths = {"1", "2", "-1", "9999", "-9999", "(2147*1000*1000+483*1000+648)"};
        for (String t : truths) {
            value("not " + t, 0);
            value("not not " + t, 1);
            value(t + " or 0", 1);
            value("0 or " + t, 1);
            value(t + " and 7", 1);
            value("7 and " + t, 1);
            value(t + " and 0", 0);
            value("0 and " + t, 0);
            value("(" + t + "=" + t + ")*7", 7);
            value("(" + t + "<" + t + ")*7", 0);
        }
        value("not 0", 1);
        value("0 or 0", 0);
        value("0 and 0", 0);
        value("0=0", 1);
        value("0<0", 0);
        value("0<1", 1);
        value("-1<0", 1);
        value("1<0", 0);
        value("0<-1", 0);
        value("4096*4096*256 or 0", 0);
    }

    /** What binds first, and that like signs go from the left. */
    private static void promise8Order() {
        value("1-2-3", -4);
        value("1-2+3", 2);
        value("2-3*4", -10);
        value("2*3-4", 2);
        value("-2*3+7", 1);
        value("-(2+3)", -5);
        value("1+1=2", 1);
        value("2=1+1", 1);
        value("1<2+0-1", 0);
        value("not 1<2", 0);
        value("not 2<1 and 1", 1);
        value("not 0 and 0", 0);
        value("not 1 or 1", 1);
        value("1 or 1 and 0", 1);
        value("0 and 1 or 1", 1);
        value("0 and (1 or 1)", 0);
        value("(1<2)<1", 0);
        value("3-(1<2)", 2);
        value("5*(not 1)+3", 3);
    }

    // ---- promise 9

    /** "A TEXT is THE RULE: which was." */
    private static void promise9TheLastTaken() {
        CrystalByTheMinute x = new CrystalByTheMinute();
        due.is("promise 9: force(0), the only one", x.force(0), 0);
        for (int t = 1; t < 6; t++) {
            due.is("promise 9: force(" + t + "), not yet there", x.force(t), BAD);
            Due.text(x, "prices " + t + REST);
            due.is("promise 9: force(" + t + ")", x.force(t), t - 1);
            due.is("promise 9: THE RULE", x.count(5), t);
        }
        due.is("promise 9: force(5) again", x.force(5), 5);
        due.is("promise 9: force(0)", x.force(0), 5);
        due.is("promise 9: force(5)", x.force(5), 0);
    }

    /** "BAD." */
    private static void promise9TheFirstNotTaken() {
        for (int text : new int[] {-1, 2, 5, 6, MIN, MAX}) {
            Edges.leaves(due, "promise 9: force(" + text + ")", Edges::small, x -> x.force(text), BAD);
        }
        for (int text : new int[] {-1, 1, 6, MIN, MAX}) {
            Edges.leaves(due, "promise 9: force(" + text + ") of one", Edges::empty, x -> x.force(text), BAD);
        }
        for (int text : new int[] {-1, 6, MIN, MAX}) {
            Edges.leaves(due, "promise 9: force(" + text + ") of six", Edges::fullOfTexts, x -> x.force(text), BAD);
        }
    }

    /** A TEXT that came behind a FAULT, or behind an IMAGE that has gone back, is one. */
    private static void promise9WhichWas() {
        CrystalByTheMinute x = new CrystalByTheMinute();
        x.image();
        Due.text(x, "prices");
        due.is("promise 9: none by a FAULT", x.force(1), BAD);
        Due.text(x, "prices 9" + REST);
        due.is("promise 9: force(1)", x.force(1), 0);
        x.back();
        due.is("promise 9: TEXT 1 is there still", x.force(1), 0);
        due.is("promise 9: force(1) again", x.force(1), 1);
    }
}
