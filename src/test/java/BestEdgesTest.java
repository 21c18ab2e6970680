/** Boundary cases of promises 13 to 17, sentence by sentence; each test stands below the words that it holds to. */
final class BestEdgesTest {
    private static final Due due = new Due("BestEdgesTest");
    private static final int NONE = Edges.NONE, BAD = Edges.BAD, NO_ANSWER = Edges.NO_ANSWER;
    private static final int MAX = Edges.MAX, MIN = Edges.MIN;

    public static void main(String[] args) {
        promise13Refused();
        promise13NobodyThere();
        promise13NoneIsNeeded();
        promise13OneToFive();
        promise13OfLikeOnesTheLeast();
        promise13NotAsGladdest();
        promise13BehindOthers();
        promise13JustAsMuchJoy();
        promise13UpWhenTheyAre();
        promise14Refused();
        promise14NobodyThere();
        promise14TheOnlyOne();
        promise14OfLikeOnesTheFirst();
        promise14TheLastOfSix();
        promise15Refused();
        promise15NobodyThere();
        promise15OneClient();
        promise15TheFirstAndTheLastTwo();
        promise15OfLikeOnesTheFirst();
        promise15OnlyIfMore();
        promise15WhatTextsSee();
        promise16Refused();
        promise16NobodyThere();
        promise16JustEnough();
        promise16AtMost999();
        promise16OfLikeOnesTheFirst();
        promise16OnlyIfMore();
        promise17Refused();
        promise17NobodyThere();
        promise17FirstAndLastRate();
        promise17OfLikeOnesTheLeast();
        promise17WhateverTheRateIs();
        due.end();
    }

    /** So many figures, FIGUREs of given MEANS, and clients at HOUR 0 of given WISHES. */
    private static CrystalByTheMinute world(int[] means, int[] wishes) {
        CrystalByTheMinute x = new CrystalByTheMinute();
        for (int m : means) {
            x.figure(0, 0, m);
        }
        for (int w : wishes) {
            x.client(0, w);
        }
        return x;
    }

    private static int[] of(int... numbers) {
        return numbers;
    }

    // ---- promise 13

    /** "BAD." */
    private static void promise13Refused() {
        for (int what : new int[] {-1, 2, MIN, MAX}) {
            Edges.leaves(due, "promise 13: few(" + what + ")", Edges::small, x -> x.few(what), BAD);
            due.is("promise 13: few(" + what + ") of none", Edges.empty().few(what), BAD);
        }
        long bits = Edges.crowded().few(0);
        Edges.leaves(due, "promise 13: few(0)", Edges::crowded, x -> x.few(0), bits);
        Edges.leaves(due, "promise 13: few(1)", Edges::crowded, x -> x.few(1), Long.bitCount(bits));
    }

    /** An empty world: "the fewest FIGURES" decides, none do as well as all of none; few() has no NONE. */
    private static void promise13NobodyThere() {
        CrystalByTheMinute[] worlds = {Edges.empty(), world(of(), of(63, 63, 63, 63, 63)), world(of(9, 9, 9, 9, 9, 9), of())};
        for (CrystalByTheMinute x : worlds) {
            due.is("promise 13: few(0)", x.few(0), 0);
            due.is("promise 13: few(1)", x.few(1), 0);
        }
    }

    /** Where fog is as glad as all, "the fewest FIGURES" are none, though FIGURES could be shown. */
    private static void promise13NoneIsNeeded() {
        CrystalByTheMinute x = world(of(99, 99), of(0, 0));
        due.is("promise 13: nobody WISHES", x.few(0), 0);
        x.set(5, 0, 3);
        due.is("promise 13: somebody does", x.few(0), 1);
        x.force(Due.text(x, "prices 0;joys 0;pays 99;"));
        due.is("promise 13: no joy", x.few(0), 0);
        x.force(Due.text(x, "prices 0;joys -1;pays 99;"));
        due.is("promise 13: less than none", x.few(0), 0);
        x.force(Due.text(x, "prices 0;joys 1;pays 99;"));
        due.is("promise 13: one is", x.few(0), 1);
        due.is("promise 13: one is", x.few(1), 1);
    }

    /** "how many": one for all; five, for there are five CLIENTS; never six. */
    private static void promise13OneToFive() {
        CrystalByTheMinute x = world(of(5, 5, 5, 5, 5, 5), of(63, 63, 63, 63, 63));
        due.is("promise 13: each can pay once", x.few(0), 31);
        due.is("promise 13: how many", x.few(1), 5);
        x.set(2, 5, 24);
        due.is("promise 13: the last can pay four times", x.few(0), 33);
        due.is("promise 13: how many", x.few(1), 2);
        x.set(2, 5, 25);
        due.is("promise 13: the last can pay five times", x.few(0), 32);
        due.is("promise 13: how many", x.few(1), 1);
        x.set(2, 0, 25);
        due.is("promise 13: the first can, too", x.few(0), 1);
    }

    /** "of like ones the least as bits": bits, not the first showing. */
    private static void promise13OfLikeOnesTheLeast() {
        CrystalByTheMinute x = world(of(10, 5, 5, 10), of(15, 15, 15));
        due.is("promise 13: of {0, 1}, {0, 2}, {0, 3}, {1, 3}, {2, 3}", x.few(0), 3);
        x.set(2, 0, 5);
        due.is("promise 13: of {0, 3}, {1, 3}, {2, 3}", x.few(0), 9);
        x.set(2, 0, 4);
        due.is("promise 13: of {1, 3}, {2, 3}", x.few(0), 10);
        x.set(2, 1, 4);
        due.is("promise 13: {2, 3}", x.few(0), 12);
        // "the fewest" decides, ahead of "the least as bits": 8 alone is more than 7
        x.set(2, 3, 15);
        x.set(2, 0, 5);
        x.set(2, 1, 5);
        due.is("promise 13: {3}, not {0, 1, 2}", x.few(0), 8);
    }

    /** FEW looks at FIGURES, not at showings: GLADDEST, the first of like ones, may show others. */
    private static void promise13NotAsGladdest() {
        CrystalByTheMinute x = world(of(5, 5, 5), of(3, 5));
        due.is("promise 13: GLADDEST shows {0, 2}", x.showing(0, 0), 13);
        due.is("promise 13: {0, 1} have lesser bits", x.few(0), 3);
        CrystalByTheMinute y = world(of(5, 5, 10), of(7, 7));
        due.is("promise 13: GLADDEST shows {0, 1}", y.showing(0, 0), 12);
        due.is("promise 13: {2} are fewer", y.few(0), 4);
    }

    /** What is asked is asked of the CLIENTS who are here now, whoever was here before. */
    private static void promise13BehindOthers() {
        CrystalByTheMinute x = world(of(5, 5, 5), of(1));
        x.image();
        x.client(0, 2);
        x.client(0, 4);
        due.is("promise 13: three for three", x.few(0), 7);
        x.back();
        due.is("promise 13: one for one", x.few(0), 1);
        x.set(5, 0, 0);
        due.is("promise 13: none for none", x.few(0), 0);
    }

    /** "GLADDEST would have as much JOY": one less is not as much. */
    private static void promise13JustAsMuchJoy() {
        CrystalByTheMinute x = world(of(99), of(1, 0));
        x.figure(5, 0, 5);
        due.is("promise 13: a LAMP's 1 counts", x.few(0), 3);
        x.set(2, 1, 4);
        due.is("promise 13: a LAMP that can't pay", x.few(0), 1);
        x.set(2, 1, 5);
        x.set(5, 1, 1);
        due.is("promise 13: FIGURE 0 for both", x.few(0), 1);
    }

    /** "none but these being UP": these are UP in their HOURS, no more. */
    private static void promise13UpWhenTheyAre() {
        CrystalByTheMinute x = world(of(99, 99), of(3, 3));
        x.set(4, 1, 11);
        due.is("promise 13: both HOURS", x.few(0), 1);
        x.set(3, 0, 4095 - (1 << 11));
        due.is("promise 13: the last HOUR of the second alone", x.few(0), 2);
        x.set(3, 1, 1 << 11);
        due.is("promise 13: one HOUR each", x.few(0), 3);
        x.set(3, 0, 0);
        due.is("promise 13: the first never", x.few(0), 2);
        x.set(3, 1, 0);
        due.is("promise 13: none ever", x.few(0), 0);
    }

    // ---- promise 14

    /** "-100000: what." */
    private static void promise14Refused() {
        for (int what : new int[] {-1, 2, MIN, MAX}) {
            Edges.leaves(due, "promise 14: missed(" + what + ")", Edges::small, x -> x.missed(what), NO_ANSWER);
            due.is("promise 14: missed(" + what + ") of none", Edges.empty().missed(what), NO_ANSWER);
        }
        long who = Edges.crowded().missed(0);
        long joy = Edges.crowded().missed(1);
        Edges.leaves(due, "promise 14: missed(0)", Edges::crowded, x -> x.missed(0), who);
        Edges.leaves(due, "promise 14: missed(1)", Edges::crowded, x -> x.missed(1), joy);
    }

    /** "NONE: no FIGURES", "JOY then (1; as now, if none)"; where nobody is missed the first is. */
    private static void promise14NobodyThere() {
        CrystalByTheMinute[] none = {Edges.empty(), world(of(), of(63)), world(of(), of(63, 63, 63, 63, 63))};
        for (CrystalByTheMinute x : none) {
            due.is("promise 14: no FIGURES", x.missed(0), NONE);
            due.is("promise 14: JOY as now", x.missed(1), 0);
        }
        // "NONE: no FIGURES" decides: of FIGURES that make no odds the first is answered
        CrystalByTheMinute[] noOdds = {world(of(99, 99), of()), world(of(0, 0), of(3)), world(of(99, 99), of(0))};
        for (CrystalByTheMinute x : noOdds) {
            due.is("promise 14: the first", x.missed(0), 0);
            due.is("promise 14: JOY", x.missed(1), 0);
        }
        CrystalByTheMinute x = world(of(99, 99), of(3));
        due.is("promise 14: each does as well, the first", x.missed(0), 0);
        due.is("promise 14: JOY as it is", x.missed(1), 10);
    }

    private static void promise14TheOnlyOne() {
        CrystalByTheMinute x = world(of(99), of(1, 1));
        due.is("promise 14: the only one", x.missed(0), 0);
        due.is("promise 14: JOY without", x.missed(1), 0);
        due.is("promise 14: JOY as now", x.showing(0, 1), 20);
    }

    /** "of like ones the first" */
    private static void promise14OfLikeOnesTheFirst() {
        CrystalByTheMinute x = world(of(5, 5, 5), of(1, 2, 4));
        due.is("promise 14: all alike", x.missed(0), 0);
        due.is("promise 14: JOY", x.missed(1), 20);
        x.set(5, 0, 4);
        x.set(2, 2, 10);
        due.is("promise 14: the last", x.missed(0), 2);
        due.is("promise 14: JOY", x.missed(1), 10);
        x.set(5, 0, 2);
        x.set(2, 1, 10);
        due.is("promise 14: the midst one", x.missed(0), 1);
        due.is("promise 14: JOY", x.missed(1), 10);
    }

    private static void promise14TheLastOfSix() {
        CrystalByTheMinute x = world(of(99, 99, 99, 99, 99, 5), of(32, 31, 31, 31, 31));
        due.is("promise 14: the last of six", x.missed(0), 5);
        due.is("promise 14: JOY", x.missed(1), 40);
        x.set(2, 5, 4);
        due.is("promise 14: who can't pay isn't missed", x.missed(0), 0);
        due.is("promise 14: JOY", x.missed(1), 40);
    }

    // ---- promise 15

    /** "-100000: what." */
    private static void promise15Refused() {
        for (int what : new int[] {-1, 2, MIN, MAX}) {
            Edges.leaves(due, "promise 15: change(" + what + ")", Edges::small, x -> x.change(what), NO_ANSWER);
            due.is("promise 15: change(" + what + ") of none", Edges.empty().change(what), NO_ANSWER);
        }
        long who = Edges.crowded().change(0);
        long joy = Edges.crowded().change(1);
        Edges.leaves(due, "promise 15: change(0)", Edges::crowded, x -> x.change(0), who);
        Edges.leaves(due, "promise 15: change(1)", Edges::crowded, x -> x.change(1), joy);
    }

    /** "(what 0; NONE), JOY then (1; as now, if none)": "if more than now" decides of an empty world, 0 is not more. */
    private static void promise15NobodyThere() {
        CrystalByTheMinute[] none = {Edges.empty(), world(of(), of(63, 63, 63, 63, 63)), world(of(99, 99), of())};
        for (CrystalByTheMinute x : none) {
            due.is("promise 15: change(0)", x.change(0), NONE);
            due.is("promise 15: change(1)", x.change(1), 0);
        }
    }

    /** "the one CLIENT .., and the other": of one alone there is no other. */
    private static void promise15OneClient() {
        CrystalByTheMinute x = world(of(99), of(1));
        due.is("promise 15: one alone", x.change(0), NONE);
        due.is("promise 15: JOY as now", x.change(1), 10);
        x.set(3, 0, 2);
        due.is("promise 15: one alone, and unseen", x.change(0), NONE);
        due.is("promise 15: JOY as now", x.change(1), 0);
    }

    /** Five CLIENTS at HOURS 0 .. 4, FIGURE 0 is UP in one of these alone, and one CLIENT WISHES for it. */
    private static CrystalByTheMinute oneWish(int up, int who) {
        CrystalByTheMinute x = world(of(99), of(0, 0, 0, 0, 0));
        for (int c = 0; c < 5; c++) {
            x.set(4, c, c);
        }
        x.set(3, 0, 1 << up);
        x.set(5, who, 1);
        return x;
    }

    /** "10 times the one CLIENT, and the other (the lesser first)": all pairs, from 0 and 1 to 3 and 4. */
    private static void promise15TheFirstAndTheLastTwo() {
        for (int up = 0; up < 5; up++) {
            for (int who = 0; who < 5; who++) {
                CrystalByTheMinute x = oneWish(up, who);
                String call = "promise 15: CLIENT " + who + " WISHES, UP at CLIENT " + up + "'s HOUR";
                due.is(call, x.change(0), up == who ? NONE : 10 * Math.min(up, who) + Math.max(up, who));
                due.is(call + ", JOY", x.change(1), 10);
                due.is(call + ", as it was", x.told(who, 4), who);
            }
        }
    }

    /** "of like ones the first" */
    private static void promise15OfLikeOnesTheFirst() {
        CrystalByTheMinute x = oneWish(4, 0);
        x.set(5, 2, 1);
        due.is("promise 15: 0 and 4, ahead of 2 and 4", x.change(0), 4);
        x.set(3, 0, 1 << 4 | 1 << 3);
        due.is("promise 15: 0 and 3, ahead of 0 and 4, 2 and 3", x.change(0), 3);
        x.set(5, 0, 0);
        due.is("promise 15: 2 and 3, ahead of 2 and 4", x.change(0), 23);
        due.is("promise 15: JOY", x.change(1), 10);
    }

    /** "if more than now": as much is not more. */
    private static void promise15OnlyIfMore() {
        CrystalByTheMinute x = oneWish(1, 1);
        due.is("promise 15: JOY now", x.showing(0, 1), 10);
        due.is("promise 15: none is more", x.change(0), NONE);
        x.set(5, 0, 1);
        due.is("promise 15: as much is not more", x.change(0), NONE);
        due.is("promise 15: JOY as now", x.change(1), 10);
        // like HOURS: nothing changes
        CrystalByTheMinute y = world(of(99), of(1, 0));
        y.set(3, 0, 2);
        due.is("promise 15: of like HOURS", y.change(0), NONE);
        y.set(4, 1, 1);
        due.is("promise 15: of unlike HOURS", y.change(0), 1);
    }

    /** Terms: texts see the HOUR and how many come in it, as they would be. */
    private static void promise15WhatTextsSee() {
        CrystalByTheMinute x = world(of(99), of(1, 0, 0));
        x.set(4, 1, 5);
        x.set(4, 2, 5);
        x.force(Due.text(x, "prices 0;joys clients*10+hour;pays 0;"));
        due.is("promise 15: JOY now", x.showing(0, 1), 10);
        due.is("promise 15: change(0)", x.change(0), 1);
        due.is("promise 15: JOY of two who come in HOUR 5", x.change(1), 25);
    }

    // ---- promise 16

    /** "-100000: k, what."; Terms: "RAISE (k 0 .. 999)". */
    private static void promise16Refused() {
        for (int bad : new int[] {-1, 2, MIN, MAX}) {
            Edges.leaves(due, "promise 16: raise(1, " + bad + ")", Edges::small, x -> x.raise(1, bad), NO_ANSWER);
        }
        for (int k : new int[] {-1, 1000, MIN, MAX}) {
            for (int what = 0; what < 2; what++) {
                int w = what;
                Edges.leaves(due, "promise 16: raise(" + k + ", " + w + ")", Edges::small, x -> x.raise(k, w), NO_ANSWER);
            }
            due.is("promise 16: raise(" + k + ", 2)", Edges.small().raise(k, 2), NO_ANSWER);
            due.is("promise 16: raise(" + k + ", 0) of none", Edges.empty().raise(k, 0), NO_ANSWER);
        }
        for (int k : new int[] {0, 999}) {
            long who = Edges.crowded().raise(k, 0);
            long joy = Edges.crowded().raise(k, 1);
            Edges.leaves(due, "promise 16: raise(" + k + ", 0)", Edges::crowded, x -> x.raise(k, 0), who);
            Edges.leaves(due, "promise 16: raise(" + k + ", 1)", Edges::crowded, x -> x.raise(k, 1), joy);
        }
    }

    /** "(what 0; NONE), JOY then (1; as now, if none)": "if more than now" decides of an empty world, 0 is not more. */
    private static void promise16NobodyThere() {
        CrystalByTheMinute[] none = {Edges.empty(), world(of(), of(63, 63)), world(of(0, 0), of())};
        for (CrystalByTheMinute x : none) {
            for (int k : new int[] {0, 1, 999}) {
                due.is("promise 16: raise(" + k + ", 0)", x.raise(k, 0), NONE);
                due.is("promise 16: raise(" + k + ", 1)", x.raise(k, 1), 0);
            }
        }
    }

    /** The least k that does, and one less; 0 never does. */
    private static void promise16JustEnough() {
        for (int means = 0; means < 5; means++) {
            CrystalByTheMinute x = world(of(means), of(1));
            for (int k = 0; k < 7; k++) {
                String call = "promise 16: " + k + " more than " + means;
                due.is(call, x.raise(k, 0), means + k >= 5 ? 0 : NONE);
                due.is(call + ", JOY", x.raise(k, 1), means + k >= 5 ? 10 : 0);
            }
            due.is("promise 16: MEANS are as they were", x.told(0, 2), means);
        }
        CrystalByTheMinute x = world(of(0, 0, 0, 0, 0, 0), of(32));
        due.is("promise 16: the last of six", x.raise(5, 0), 5);
        due.is("promise 16: by one less", x.raise(4, 0), NONE);
    }

    /** "having k more MEANS (999 at most)" */
    private static void promise16AtMost999() {
        CrystalByTheMinute x = new CrystalByTheMinute();
        x.figure(1, 0, 998);
        x.client(2, 1);
        x.client(3, 1);
        x.force(Due.text(x, "prices 99;joys 9;pays 0;"));
        x.set(0, 0, 9);
        due.is("promise 16: a LADY of 999, by 0", x.raise(0, 0), NONE);
        due.is("promise 16: by 1", x.raise(1, 0), 0);
        due.is("promise 16: by 999, not twice 999", x.raise(999, 1), 11);
        x.set(2, 0, 0);
        due.is("promise 16: 0 and 999", x.raise(999, 0), 0);
        due.is("promise 16: 0 and 998", x.raise(998, 0), NONE);
        x.set(2, 0, 999);
        due.is("promise 16: who has 999 has no more", x.raise(999, 0), NONE);
        due.is("promise 16: JOY as now", x.raise(999, 1), 11);
        // the bound holds for what a text sees, too: MEANS as they would truly be
        x.force(Due.text(x, "prices 0;joys (means=999)*5+(999<means)*9;pays 0;"));
        x.set(2, 0, 998);
        due.is("promise 16: a text sees 999", x.raise(2, 1), 2 * 7);
        due.is("promise 16: by 1", x.raise(1, 1), 2 * 7);
        due.is("promise 16: by 0", x.raise(0, 1), 2 * 2);
    }

    /** "of like ones the first" */
    private static void promise16OfLikeOnesTheFirst() {
        CrystalByTheMinute x = world(of(3, 4, 4), of(7));
        due.is("promise 16: by 1, the first of two", x.raise(1, 0), 1);
        due.is("promise 16: by 2, the first of three", x.raise(2, 0), 0);
        x.client(0, 4);
        due.is("promise 16: the last one, for one alone", x.raise(1, 1), 10);
        due.is("promise 16: likewise by 1", x.raise(1, 0), 1);
        due.is("promise 16: by 6 the last for both", x.raise(6, 0), 2);
        due.is("promise 16: by 6, JOY", x.raise(6, 1), 20);
        due.is("promise 16: by 5 none for both", x.raise(5, 0), 0);
    }

    /** "if more than now": not as much, not less. */
    private static void promise16OnlyIfMore() {
        CrystalByTheMinute x = world(of(5, 0), of(3));
        due.is("promise 16: as much", x.raise(999, 0), NONE);
        due.is("promise 16: JOY as now", x.raise(999, 1), 10);
        x.force(Due.text(x, "prices 0;joys 9-means;pays 0;"));
        due.is("promise 16: less", x.raise(1, 0), NONE);
        due.is("promise 16: JOY as now", x.raise(1, 1), 9);
        x.force(Due.text(x, "prices 0;joys means;pays 0;"));
        due.is("promise 16: by 1", x.raise(1, 0), 0);
        due.is("promise 16: by 1, JOY", x.raise(1, 1), 6);
        due.is("promise 16: by 99 the first of like ones", x.raise(99, 0), 0);
        due.is("promise 16: by 0", x.raise(0, 0), NONE);
    }

    // ---- promise 17

    /** "-100000: what." */
    private static void promise17Refused() {
        for (int what : new int[] {-1, 2, 9, MIN, MAX}) {
            Edges.leaves(due, "promise 17: dear(" + what + ")", Edges::small, x -> x.dear(what), NO_ANSWER);
            due.is("promise 17: dear(" + what + ") of none", Edges.empty().dear(what), NO_ANSWER);
        }
        long rate = Edges.crowded().dear(0);
        long income = Edges.crowded().dear(1);
        Edges.leaves(due, "promise 17: dear(0)", Edges::crowded, x -> x.dear(0), rate);
        Edges.leaves(due, "promise 17: dear(1)", Edges::crowded, x -> x.dear(1), income);
    }

    /** An empty world brings 0 by all RATES: "of like ones the least" decides; dear() has no NONE. */
    private static void promise17NobodyThere() {
        CrystalByTheMinute[] none = {Edges.empty(), world(of(), of(63, 63)), world(of(99, 99), of()), world(of(0, 4), of(3))};
        for (CrystalByTheMinute x : none) {
            for (int rate = 1; rate <= 9; rate += 4) {
                x.set(0, 0, rate);
                due.is("promise 17: dear(0)", x.dear(0), 1);
                due.is("promise 17: dear(1)", x.dear(1), 0);
            }
        }
    }

    /** "the RATE (1 .. 9)": each can be the one; MEANS to the last, and one less. */
    private static void promise17FirstAndLastRate() {
        for (int means = 5; means < 60; means++) {
            CrystalByTheMinute x = world(of(means), of(0));
            int rate = Math.min(9, means / 5);
            due.is("promise 17: MEANS " + means, x.dear(0), rate);
            due.is("promise 17: MEANS " + means + ", INCOME", x.dear(1), 5 * rate);
        }
    }

    /** "of like ones the least" */
    private static void promise17OfLikeOnesTheLeast() {
        CrystalByTheMinute x = world(of(999), of(0, 0));
        x.force(Due.text(x, "prices 0;joys 0;pays 3;"));
        due.is("promise 17: all alike", x.dear(0), 1);
        due.is("promise 17: INCOME", x.dear(1), 6);
        x.force(Due.text(x, "prices 5;joys 0;pays 0;"));
        x.set(2, 0, 20);
        due.is("promise 17: twice 10, ahead of once 20", x.dear(0), 2);
        due.is("promise 17: INCOME", x.dear(1), 20);
        CrystalByTheMinute y = new CrystalByTheMinute();
        y.figure(5, 0, 999);
        y.client(0, 0);
        due.is("promise 17: a LAMP, 5 at most", y.dear(0), 1);
        due.is("promise 17: INCOME", y.dear(1), 5);
        y.force(Due.text(y, "prices 2;joys 0;pays 0;"));
        due.is("promise 17: a LAMP, 4 by 2, 5 by 3", y.dear(0), 3);
    }

    /** "would be most": whatever the RATE is; which stays. */
    private static void promise17WhateverTheRateIs() {
        for (int rate = 1; rate <= 9; rate++) {
            CrystalByTheMinute x = world(of(22), of(1));
            x.set(0, 0, rate);
            due.is("promise 17: dear(0) by RATE " + rate, x.dear(0), 4);
            due.is("promise 17: dear(1)", x.dear(1), 28);
            due.is("promise 17: the RATE stays", x.told(0, 0), rate);
        }
    }
}
