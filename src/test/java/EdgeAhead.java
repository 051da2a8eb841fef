import java.math.BigInteger;

/** The edges that the promises 16, 18 to 25 and 34 name: what comes, what would be best, two who share one, what is tried. */
final class EdgeAhead {
    private static final String KIND = "kind k 1 1;";

    private EdgeAhead() {
    }

    static void run() {
        ahead();
        orderOfFour();
        orderAheadOfTheDay();
        orderInTwentyDays();
        order();
        bestWithinTwenty();
        bestInThirtyDays();
        best();
        tidy();
        share();
        whole();
        unmet();
        blows();
        tried();
        triedOtherwise();
        noSuchTried();
    }

    private static void ahead() {
        Edges.passage(3, "AHEAD for n DAYS as it goes: GLORY more, how many WANTS more are MET, MISSED, how many TINS more are BLOWN, keys then.");
        TinNation x = Check.nation(KIND + "tin a k 0 98 0;tin b k 0 99 1;tin c k 0 99 2;open c 98;want k 98 5;want k 99 6;want k 0 1;");
        aheadIs(x, 0, 0, 0, 0, 0, 20);
        aheadIs(x, 1, 0, 0, 1, 0, 20);
        aheadIs(x, 98, 0, 0, 1, 0, 20);
        aheadIs(x, 99, 5, 1, 1, 1, 19);
        x.go(1);
        aheadIs(x, 0, 0, 0, 0, 0, 20);
        aheadIs(x, 97, 0, 0, 0, 0, 20);
        aheadIs(x, 98, 5, 1, 0, 1, 19);
        aheadIs(x, 99, 11, 2, 0, 2, 19);
        x.go(98);
        aheadIs(x, 0, 0, 0, 0, 0, 19);
        aheadIs(x, 1, 6, 1, 0, 1, 19);
        aheadIs(x, 99, 6, 1, 0, 1, 19);
        x.go(99);
        aheadIs(x, 99, 0, 0, 0, 0, 19);

        Edges.promise(16, "AHEAD (n 0 .. 99), what 0 GLORY, 1 MET, 2 MISSED, 3 BLOWN, 4 keys.");
        TinNation y = Check.nation(KIND + "tin a k 0 1 0;tin b k 0 9 1;open b 0;want k 0 7;want k 0 8;keys 1;");
        aheadIs(y, 0, 0, 0, 0, 0, 1);
        aheadIs(y, 1, 7, 1, 1, 0, 0);
        aheadIs(y, 2, 7, 1, 1, 1, 0);
        aheadIs(y, 99, 7, 1, 1, 1, 0);

        Edges.promise(16, "NONE: no such ones.");
        for (int what = 0; what <= 4; what++) {
            int asked = what;
            Edges.none("what " + what + " of n", -1, 0, 99, n -> y.ahead(n, asked));
        }
        Edges.none("n 0, what", -1, 0, 4, what -> y.ahead(0, what));
        Edges.none("n 99, what", -1, 0, 4, what -> y.ahead(99, what));
        Check.due("neither", -1, y.ahead(100, 5));
    }

    private static void aheadIs(TinNation x, int n, int... due) {
        for (int what = 0; what < due.length; what++) {
            Check.due("ahead(" + n + ", " + what + ") on DAY " + x.count(4), due[what], x.ahead(n, what));
        }
    }

    private static void orderIs(String when, TinNation x, int... due) {
        for (int what = 0; what < due.length; what++) {
            Check.due("order(" + what + ") " + when, due[what], x.order(what));
        }
    }

    /** So many TINS of one KIND, the first in STACK 0, the next in 1 and so on. */
    private static String tins(int many) {
        StringBuilder text = new StringBuilder(KIND);
        for (int i = 0; i < many; i++) {
            text.append("tin ").append((char) ('a' + i)).append(" k 0 99 ").append(i % 4).append(';');
        }
        return text.toString();
    }

    private static void orderOfFour() {
        Edges.passage(3, "ORDER of the first four TINS that are CLOSED:");
        orderIs("of none", Check.nation(tins(0)), -2, -2, -2, -2, 0);
        orderIs("of one", Check.nation(tins(1)), 0, -2, -2, -2, 0);
        orderIs("of two", Check.nation(tins(2)), 0, 1, -2, -2, 0);
        orderIs("of three", Check.nation(tins(3)), 0, 1, 2, -2, 0);
        orderIs("of four", Check.nation(tins(4)), 0, 1, 2, 3, 0);
        orderIs("of five", Check.nation(tins(5)), 0, 1, 2, 3, 0);
        TinNation x = Check.nation(tins(8));
        orderIs("of eight", x, 0, 1, 2, 3, 0);
        x.open(4);
        x.open(0);
        orderIs("without the first", x, 1, 2, 3, 5, 0);
        x.go(3);
        orderIs("as it is EMPTY", x, 1, 2, 3, 5, 0);
        x.open(7);
        x.open(6);
        x.open(5);
        orderIs("of three", x, 1, 2, 3, -2, 0);
        x.open(3);
        x.open(2);
        x.open(1);
        orderIs("of none any more", x, -2, -2, -2, -2, 0);
        TinNation blown = Check.nation(KIND + "tin a k 0 1 0;tin b k 0 9 0;tin c k 0 1 0;tin d k 0 9 0;");
        blown.go(2);
        orderIs("without those that are BLOWN", blown, 1, 3, -2, -2, 0);

        Edges.passage(3, "the row of them in which one is opened on this DAY, the next one a DAY later and so on,");
        // each is wanted on one DAY alone, FRESH for one DAY
        String five = "kind a 1 1;kind b 1 1;kind c 1 1;kind d 1 1;kind e 1 1;tin a a 0 99 0;tin b b 0 99 0;tin c c 0 99 0;tin d d 0 99 0;tin e e 0 99 0;law fresh 1;";
        orderIs("as it is", Check.nation(five + "want a 0 1;want b 1 2;want c 2 4;want d 3 8;"), 0, 1, 2, 3, 15);
        orderIs("turned round", Check.nation(five + "want a 3 1;want b 2 2;want c 1 4;want d 0 8;"), 3, 2, 1, 0, 15);
        orderIs("the last row but one", Check.nation(five + "want a 2 1;want b 3 2;want c 1 4;want d 0 8;"), 3, 2, 0, 1, 15);
        orderIs("the fifth has no turn", Check.nation(five + "want e 0 1;want e 1 2;want e 2 4;want e 3 8;want e 4 9;"), 0, 1, 2, 3, 0);
        orderIs("one DAY too late", Check.nation(five + "want a 4 1;want b 4 2;want d 4 3;want c 1 1;"), 0, 2, 1, 3, 1);
        TinNation later = Check.nation(five + "want b 5 3;want a 6 4;want a 4 9;");
        later.go(5);
        orderIs("from this DAY on", later, 1, 0, 2, 3, 7);
    }

    private static void orderAheadOfTheDay() {
        Edges.passage(3, "each ahead of (1) of its DAY (whether ON TOP or not; with a key, if there is one; else it stays, not REFUSED),");
        TinNation one = Check.nation(tins(4) + "kind j 1 1;tin x j 0 99 0;open x 0;want j 0 50;keys 1;");
        Check.due("the told open has the only key", 50, one.ahead(1, 0));
        orderIs("has it ahead of (1)", one, 0, 1, 2, 3, 0);
        TinNation two = Check.nation(tins(4) + "kind j 1 1;tin x j 0 99 0;open x 0;want j 0 50;keys 2;");
        Check.due("with two keys both are opened", 50, two.order(4));
        TinNation below = Check.nation("kind j 1 1;" + KIND + "tin a j 0 99 0;tin b k 0 99 0;tin c k 0 99 0;want j 0 5;");
        orderIs("the lowest one first", below, 0, 1, 2, -2, 5);
        for (int keys = 0; keys <= 4; keys++) {
            TinNation x = Check.nation(tins(4) + "want k 0 1;want k 1 2;want k 2 4;want k 3 8;law fresh 1;keys " + keys + ";");
            orderIs("with " + keys + " keys", x, 0, 1, 2, 3, (1 << keys) - 1);
        }
        TinNation which = Check.nation("kind j 1 1;" + KIND + "tin a j 0 99 0;tin b k 0 99 1;want j 0 5;want k 0 6;keys 1;");
        orderIs("the one key for the one that is worth more", which, 1, 0, -2, -2, 6);
        Check.due("nothing is REFUSED by asking", 0, which.count(11));
        Check.due("no key is used by asking", 1, which.count(12));
        // told to be opened on the same DAY: it is OPEN already, so its open is REFUSED and the next has the key
        TinNation same = Check.nation(tins(2) + "open a 0;open b 0;want k 0 1;want k 0 2;keys 2;");
        orderIs("told for the same DAY", same, 0, 1, -2, -2, 3);
    }

    private static void orderInTwentyDays() {
        Edges.passage(3, "by which most GLORY is gained in 20 DAYS as it goes, of several the first by TINS.");
        TinNation x = Check.nation(tins(4) + "kind j 1 1;tin x j 0 99 0;open x 18;want j 18 1;want j 19 2;want j 20 4;");
        x.put(4, 1);
        orderIs("DAYS 0 to 19", x, 0, 1, 2, 3, 3);
        x.go(1);
        orderIs("DAYS 1 to 20", x, 0, 1, 2, 3, 7);
        x.go(17);
        orderIs("DAYS 18 to 37", x, 0, 1, 2, 3, 7);
        x.go(1);
        orderIs("only what is more", x, 0, 1, 2, 3, 6);
        TinNation rust = Check.nation(KIND + "tin a k 9 99 0;tin b k 8 99 0;want k 1 5;want k 0 3;rust 50;law fresh 1;");
        orderIs("a rusts on DAY 0, so it comes first", rust, 0, 1, -2, -2, 8);
        TinNation numbers = Check.nation(KIND + "tin a k 9 99 0;tin b k 9 99 0;want k 1 5;want k 0 3;rust 49;law fresh 1;");
        orderIs("none rusts as it goes", numbers, 0, 1, -2, -2, 8);
        // of the rows in which c is first, the first by TINS
        TinNation several = Check.nation("kind j 1 1;" + tins(2) + "tin c j 0 99 2;tin d k 0 99 3;want j 0 5;law fresh 1;");
        orderIs("c, and then as they are numbered", several, 2, 0, 1, 3, 5);
        TinNation last = Check.nation("kind j 1 1;" + tins(2) + "tin c k 0 99 2;tin d j 0 99 3;want j 3 5;law fresh 1;");
        orderIs("d last", last, 0, 1, 2, 3, 5);
    }

    private static void order() {
        Edges.promise(18, "ORDER, what 0 .. 3: the TIN opened first, and so on (-2: not so many), 4: GLORY.");
        orderIs("of none", new TinNation(), -2, -2, -2, -2, 0);
        orderIs("of one", Check.nation(KIND + "tin a k 0 99 0;want k 2 99;want k 3 99;"), 0, -2, -2, -2, 99);
        orderIs("of four", Check.nation(tins(4) + "want k 0 99;"), 0, 1, 2, 3, 99);
        TinNation open = Check.nation(KIND + "tin a k 0 99 0;want k 2 99;");
        open.open(0);
        orderIs("of one that is OPEN", open, -2, -2, -2, -2, 99);

        Edges.promise(18, "NONE for another what.");
        Edges.none("order", -1, 0, 4, open::order);
        Edges.none("order of none", -1, 0, 4, new TinNation()::order);
    }

    private static void bestIs(String when, TinNation x, int tin, int days, int glory) {
        Check.due("best(" + tin + ", 0) " + when, days, x.best(tin, 0));
        Check.due("best(" + tin + ", 1) " + when, glory, x.best(tin, 1));
    }

    private static void bestWithinTwenty() {
        Edges.passage(3, "BEST of a TIN that is CLOSED: in how many DAYS, 0 .. 20, it should be opened likewise,");
        for (int day : new int[] {0, 1, 2, 19, 20}) {
            TinNation x = Check.nation(KIND + "tin a k 0 99 0;want k " + day + " 7;law fresh 1;");
            bestIs("wanted on DAY " + day, x, 0, day, 7);
        }
        TinNation late = Check.nation(KIND + "tin a k 0 99 0;want k 21 7;law fresh 1;");
        bestIs("wanted on DAY 21", late, 0, 0, 0);
        late.go(1);
        bestIs("wanted in 20 DAYS", late, 0, 20, 7);
        late.go(20);
        bestIs("wanted on this DAY", late, 0, 0, 7);
        late.go(1);
        bestIs("wanted no more", late, 0, 0, 0);
        TinNation two = Check.nation(KIND + "tin a k 0 99 0;want k 21 7;law fresh 2;");
        bestIs("FRESH on DAYS 20 and 21", two, 0, 20, 7);
        // likewise: ahead of (1), whether ON TOP or not, with a key, if there is one
        TinNation below = Check.nation(KIND + "tin a k 0 99 0;tin b k 0 99 0;want k 3 7;law fresh 1;");
        bestIs("below another", below, 0, 3, 7);
        for (int keys = 0; keys <= 1; keys++) {
            TinNation key = Check.nation(KIND + "tin a k 0 99 0;want k 3 7;law fresh 1;keys " + keys + ";");
            bestIs("with " + keys + " keys", key, 0, 3 * keys, 7 * keys);
        }
        TinNation ahead = Check.nation("kind j 1 1;" + KIND + "tin a j 0 99 0;tin b k 0 99 1;open b 0;want k 0 5;want j 1 3;keys 1;law fresh 1;");
        bestIs("the only key is better used by the told open", ahead, 0, 1, 5);
        TinNation worth = Check.nation("kind j 1 1;" + KIND + "tin a j 0 99 0;tin b k 0 99 1;open b 0;want k 0 5;want j 0 6;keys 1;law fresh 1;");
        bestIs("it has the only key ahead of (1)", worth, 0, 0, 6);
        TinNation blown = Check.nation(KIND + "tin a k 0 3 0;want k 3 1;want k 4 9;law fresh 1;");
        bestIs("on the DAY that it keeps to", blown, 0, 3, 1);
    }

    private static void bestInThirtyDays() {
        Edges.passage(3, "so that most GLORY is gained in 30 DAYS as it goes, the first of several.");
        TinNation x = Check.nation(KIND + "tin a k 0 99 0;tin b k 0 99 1;open b 28;want k 28 1;want k 29 2;want k 30 4;law fresh 3;");
        bestIs("DAYS 0 to 29", x, 0, 0, 3);
        x.go(1);
        bestIs("DAYS 1 to 30", x, 0, 0, 7);
        x.go(28);
        bestIs("only what is more", x, 0, 0, 6);
        TinNation nine = Check.nation(KIND + "tin a k 0 99 0;want k 28 1;want k 29 2;law fresh 9;");
        bestIs("FRESH on DAYS 20 to 28", nine, 0, 20, 1);
        nine.go(1);
        bestIs("FRESH on DAYS 21 to 29", nine, 0, 20, 3);
        TinNation first = Check.nation(KIND + "tin a k 0 99 0;want k 5 7;law fresh 3;");
        bestIs("on DAY 3, 4 or 5", first, 0, 3, 7);
        TinNation several = Check.nation(KIND + "tin a k 0 99 0;want k 5 7;want k 9 7;want k 13 8;want k 17 8;law fresh 1;");
        bestIs("the first of the best", several, 0, 13, 8);
        TinNation none = Check.nation(KIND + "tin a k 0 99 0;");
        bestIs("without WANTS", none, 0, 0, 0);
        TinNation rust = Check.nation(KIND + "tin a k 9 99 0;want k 0 1;want k 1 5;rust 50;law fresh 1;");
        bestIs("it rusts as it goes", rust, 0, 0, 1);
        TinNation not = Check.nation(KIND + "tin a k 9 99 0;want k 0 1;want k 1 5;rust 49;law fresh 1;");
        bestIs("it doesn't", not, 0, 1, 5);
    }

    private static void best() {
        Edges.promise(19, "BEST, what 0: in how many DAYS, 1: GLORY.");
        TinNation x = Check.nation(tins(8) + "want k 2 9;law fresh 1;");
        bestIs("the first", x, 0, 2, 9);
        bestIs("the last", x, 7, 2, 9);

        Edges.promise(19, "-2: it isn't CLOSED; NONE: no such ones.");
        x.open(7);
        Check.due("OPEN", -2, x.best(7, 0));
        Check.due("OPEN", -2, x.best(7, 1));
        x.go(1);
        Check.due("EMPTY", -2, x.best(7, 0));
        x.go(99);
        Check.due("BLOWN", -2, x.best(0, 1));
        TinNation y = Check.nation(tins(2));
        for (int what = 0; what <= 1; what++) {
            int asked = what;
            Edges.none("what " + what + " of eight", -1, 0, 7, tin -> x.best(tin, asked));
            Edges.none("what " + what + " of two", -1, 0, 1, tin -> y.best(tin, asked));
        }
        Edges.none("what", -1, 0, 1, what -> y.best(0, what));
        Check.due("neither", -1, y.best(2, 2));
    }

    private static void tidyIs(int due, int... keeps) {
        StringBuilder text = new StringBuilder(KIND);
        for (int i = 0; i < keeps.length; i++) {
            text.append("tin ").append((char) ('a' + i)).append(" k 0 ").append(keeps[i]).append(" 1;");
        }
        Check.due("tidy of <" + text + ">", due, Check.nation(text.toString()).tidy(1));
    }

    private static void tidy() {
        Edges.passage(3, "TIDY of a STACK: its TINS that are CLOSED should lie so that KEEPS is never more than of one below;");
        tidyIs(0);
        tidyIs(0, 1);
        tidyIs(0, 99, 1);
        tidyIs(0, 50, 49);
        tidyIs(0, 50, 50);
        tidyIs(1, 50, 51);
        tidyIs(1, 1, 99);
        tidyIs(0, 8, 7, 6, 5, 4, 3, 2, 1);
        tidyIs(0, 5, 5, 5, 5, 5, 5, 5, 5);
        TinNation x = Check.nation(KIND + "tin a k 0 9 0;tin b k 0 20 0;tin c k 0 9 0;tin d k 0 30 1;");
        Check.due("b lies on a", 1, x.tidy(0));
        x.open(2);
        Check.due("without the OPEN one", 1, x.tidy(0));
        x.open(1);
        Check.due("without both", 0, x.tidy(0));
        x.put(3, 0);
        Check.due("as it was put", 1, x.tidy(0));
        x.go(10);
        Check.due("without the BLOWN one", 0, x.tidy(0));

        TinNation first = Check.nation(KIND + "tin a k 0 5 0;tin b k 0 9 1;tin c k 0 8 1;");
        first.put(0, 1);
        Check.due("the first told, put on top of two", 0, first.tidy(1));
        TinNation longer = Check.nation(KIND + "tin a k 0 50 0;tin b k 0 9 1;tin c k 0 8 1;");
        longer.put(0, 1);
        Check.due("the first told, that keeps longer", 2, longer.tidy(1));

        Edges.passage(3, "the fewest of them that must be taken out and put on top, one behind another, so that it is so.");
        tidyIs(1, 9, 3, 7);
        tidyIs(2, 9, 5, 20);
        tidyIs(1, 5, 9, 5);
        tidyIs(2, 5, 5, 9);
        tidyIs(7, 1, 2, 3, 4, 5, 6, 7, 8);
        tidyIs(7, 8, 7, 6, 5, 4, 3, 2, 9);
        tidyIs(1, 1, 8, 7, 6, 5, 4, 3, 2);
        tidyIs(7, 5, 5, 5, 5, 5, 5, 5, 6);
        tidyIs(1, 5, 6, 5, 5, 5, 5, 5, 5);
        int[] keeps = new int[5];
        for (int row = 0; row < 1024; row++) {
            for (int i = 0; i < 5; i++) {
                keeps[i] = 1 + (row >> 2 * i & 3);
            }
            tidyIs(fewest(keeps), keeps);
        }

        Edges.promise(20, "TIDY; NONE: no such STACK.");
        TinNation y = Check.nation(KIND + "tin a k 0 1 0;tin b k 0 2 0;tin c k 0 1 3;tin d k 0 2 3;tin e k 0 3 3;");
        Check.due("the first STACK", 1, y.tidy(0));
        Check.due("one without TINS", 0, y.tidy(1));
        Check.due("the last STACK", 2, y.tidy(3));
        Edges.none("tidy", -1, 0, 3, y::tidy);
        Edges.none("tidy of a new one", -1, 0, 3, new TinNation()::tidy);
    }

    /** By all that may be taken out: what stays must lie well, and none that is taken out may keep longer than one that stays. */
    private static int fewest(int[] keeps) {
        int fewest = keeps.length;
        for (int taken = 0; taken < 1 << keeps.length; taken++) {
            boolean isWell = true;
            for (int i = 0; i < keeps.length; i++) {
                for (int k = 0; k < keeps.length; k++) {
                    boolean staysBoth = (taken >> i & 1) == 0 && (taken >> k & 1) == 0;
                    boolean isPutOn = (taken >> i & 1) == 0 && (taken >> k & 1) == 1;
                    isWell &= !(isPutOn && keeps[k] > keeps[i] || staysBoth && i < k && keeps[k] > keeps[i]);
                }
            }
            if (isWell) {
                fewest = Math.min(fewest, Integer.bitCount(taken));
            }
        }
        return fewest;
    }

    private static TinNation shared(int fresh) {
        TinNation x = Check.nation(KIND + "tin a k 0 99 0;law fresh " + fresh + ";");
        x.open(0);
        return x;
    }

    private static void restsAre(int fresh, int... due) {
        TinNation x = shared(fresh);
        Check.due("rests of " + fresh, due.length, x.rests(0));
        for (int k = 0; k < due.length; k++) {
            Check.due("rest " + k + " of " + fresh, due[k], x.rest(0, k));
        }
        Check.due("one rest more of " + fresh, -2, x.rest(0, due.length));
    }

    private static void share() {
        Edges.passage(3, "SHARE of a TIN that is OPEN by two: each asks for 0 .. 4 DAYS of it:");
        restsAre(9, 33, 34, 43, 44);
        Edges.passage(3, "if both in sum are no more than it is FRESH, each has what was asked for, else neither has any;");
        restsAre(1, 1, 10, 11, 12, 13, 21, 22, 23, 31, 32, 33);
        restsAre(2, 2, 11, 20, 22, 23, 32, 33);
        restsAre(3, 3, 12, 21, 30, 33);
        Edges.passage(3, "who asks for 4 has 1 less.");
        restsAre(4, 4, 13, 22, 31, 40);
        restsAre(5, 14, 23, 32, 41);
        restsAre(7, 33, 34, 43);
        restsAre(8, 33, 34, 43, 44);
        Edges.passage(3, "A REST: neither would have more otherwise.");
        restsAre(6, 24, 33, 42);
        TinNation less = shared(9);
        for (int fresh = 9; fresh >= 1; fresh--) {
            Check.due("rests of what is left, " + fresh, shared(fresh).rests(0), less.rests(0));
            less.go(1);
        }
        Edges.passage(3, "RESTS: by the first one's, then the second one's.");
        for (int fresh = 1; fresh <= 9; fresh++) {
            TinNation x = shared(fresh);
            for (int k = 1; k < x.rests(0); k++) {
                Check.due("rest " + k + " of " + fresh + " behind the one before", true, x.rest(0, k) > x.rest(0, k - 1));
            }
        }

        Edges.promise(21, "How many RESTS SHARE has; NONE: no such TIN, it isn't OPEN.");
        TinNation x = Check.nation(KIND + "tin a k 0 99 0;tin b k 0 1 1;law fresh 3;");
        Check.due("CLOSED", -1, x.rests(0));
        x.open(0);
        Check.due("OPEN", 5, x.rests(0));
        Edges.none("rests", -1, 0, 1, x::rests);
        x.go(2);
        Check.due("on its last DAY", 11, x.rests(0));
        Check.due("BLOWN", -1, x.rests(1));
        x.go(1);
        Check.due("EMPTY", -1, x.rests(0));

        Edges.promise(22, "The k-th: ten times the first one's and the second one's; -2: there are no so many; NONE likewise, k is below 0.");
        TinNation y = Check.nation(KIND + "tin a k 0 99 0;tin b k 0 1 1;law fresh 3;");
        Check.due("CLOSED", -1, y.rest(0, 0));
        Check.due("CLOSED, and no so many", -1, y.rest(0, 5));
        y.open(0);
        Check.due("the first", 3, y.rest(0, 0));
        Check.due("the last", 33, y.rest(0, 4));
        for (int k : new int[] {5, 6, 10, 25, 1000, Integer.MAX_VALUE}) {
            Check.due("no so many: " + k, -2, y.rest(0, k));
        }
        for (int k : new int[] {-1, -2, -25, Integer.MIN_VALUE}) {
            Check.due("below 0: " + k, -1, y.rest(0, k));
        }
        Edges.none("the first rest of tin", -1, 0, 1, tin -> y.rest(tin, 0));
        Edges.none("no rest of tin", -1, 0, 1, tin -> y.rest(tin, 99));
        y.go(3);
        Check.due("EMPTY", -1, y.rest(0, 0));
        Check.due("BLOWN", -1, y.rest(1, 0));
    }

    private static void whole() {
        Edges.passage(3, "WHOLE for n DAYS: how likely a TIN doesn't rust in them by rust told, as a fraction.");
        for (int rust = 0; rust <= 100; rust++) {
            TinNation x = Check.nation("rust " + rust + ";");
            for (int n = 0; n <= 6; n++) {
                BigInteger above = BigInteger.valueOf(100 - rust).pow(n);
                BigInteger below = BigInteger.valueOf(100).pow(n);
                BigInteger by = above.gcd(below);
                Check.due("whole(" + n + ", 0) of rust " + rust, above.divide(by).longValue(), x.whole(n, 0));
                Check.due("whole(" + n + ", 1) of rust " + rust, below.divide(by).longValue(), x.whole(n, 1));
            }
        }
        TinNation law = Check.nation(KIND + "tin a k 0 9 0;rust 25;law blow 0;");
        Check.due("by rust told, whatever the law", 3, law.whole(1, 0));
        law.go(5);
        Check.due("on a later DAY", 4, law.whole(1, 1));
        Check.due("without rust told", 1, new TinNation().whole(6, 1));

        Edges.promise(23, "WHOLE (n 0 .. 6) in least terms, what 0: the number above, 1: the one below.");
        wholeIs(0, 6, 1, 1);
        wholeIs(1, 6, 941_480_149_401L, 1_000_000_000_000L);
        wholeIs(50, 0, 1, 1);
        wholeIs(50, 1, 1, 2);
        wholeIs(50, 6, 1, 64);
        wholeIs(99, 6, 1, 1_000_000_000_000L);
        wholeIs(100, 0, 1, 1);
        wholeIs(100, 1, 0, 1);
        wholeIs(100, 6, 0, 1);

        Edges.promise(23, "NONE: no such ones.");
        Edges.none("whole(n, 0)", -1, 0, 6, n -> (int) law.whole(n, 0));
        Edges.none("whole(n, 1)", -1, 0, 6, n -> (int) law.whole(n, 1));
        Edges.none("whole(0, what)", -1, 0, 1, what -> (int) law.whole(0, what));
        Edges.none("whole(6, what)", -1, 0, 1, what -> (int) law.whole(6, what));
    }

    private static void wholeIs(int rust, int n, long above, long below) {
        TinNation x = Check.nation("rust " + rust + ";");
        Check.due("above of rust " + rust + " for " + n, above, x.whole(n, 0));
        Check.due("below of rust " + rust + " for " + n, below, x.whole(n, 1));
    }

    private static void unmet() {
        Edges.passage(3, "UNMET: WANTS (bits) still to come for which there is no TIN that is CLOSED or OPEN of their KIND.");
        TinNation x = Check.nation("kind j 1 1;" + KIND + "tin a j 0 3 0;tin b k 0 99 1;want j 0 1;want j 3 1;want j 4 1;want k 0 1;want k 3 1;want k 5 1;law fresh 2;");
        Check.due("all CLOSED", 0, x.unmet());
        x.open(1);
        Check.due("one is OPEN", 0, x.unmet());
        x.go(1);
        Check.due("on its last DAY", 0, x.unmet());
        x.go(1);
        Check.due("EMPTY", 16 + 32, x.unmet());
        x.go(1);
        Check.due("of the first KIND it is CLOSED on DAY 3", 16 + 32, x.unmet());
        x.go(1);
        Check.due("BLOWN, and what was of DAY 3 isn't to come", 4 + 32, x.unmet());
        x.go(1);
        Check.due("on DAY 5 the one of DAY 5 is still to come", 32, x.unmet());
        x.go(1);
        Check.due("none to come", 0, x.unmet());

        Edges.promise(24, "UNMET (bits).");
        Check.due("no WANTS", 0, new TinNation().unmet());
        TinNation eight = Check.nation(KIND + "want k 99 1;".repeat(8));
        Check.due("eight", 255, eight.unmet());
        eight.go(99);
        Check.due("eight still", 255, eight.unmet());
        eight.go(1);
        Check.due("none", 0, eight.unmet());
        TinNation ends = Check.nation("kind j 1 1;" + KIND + "tin a k 0 9 0;want j 0 1;" + "want k 0 1;".repeat(6) + "want j 0 1;");
        Check.due("the first and the last", 129, ends.unmet());
    }

    private static void blows() {
        Edges.passage(3, "BLOWS of a TIN: in how many DAYS as it goes, 99 at most, it is BLOWN (0: it is).");
        for (int keeps : new int[] {1, 2, 97, 98}) {
            TinNation x = Check.nation(KIND + "tin a k 0 " + keeps + " 0;");
            Check.due("KEEPS " + keeps, keeps + 1, x.blows(0));
            x.go(1);
            Check.due("KEEPS " + keeps + ", a DAY later", keeps, x.blows(0));
        }
        TinNation x = Check.nation(KIND + "tin a k 0 99 0;tin b k 9 99 1;tin c k 8 99 2;tin d k 0 9 3;law blow (keeps=99)*(dents>7)*50;");
        Check.due("in 100 DAYS", -2, x.blows(0));
        Check.due("by one DENT", 1, x.blows(1));
        Check.due("by two", 2, x.blows(2));
        x.go(1);
        Check.due("in 99 DAYS", 99, x.blows(0));
        Check.due("it is, by the first number of the seed 0, which is 0", 0, x.blows(1));
        x.go(9);
        Check.due("it is", 0, x.blows(3));
        TinNation dent = Check.nation(KIND + "tin a k 9 99 0;");
        Check.due("of 9 DENTS not by then", -2, dent.blows(0));
        dent.dent(0);
        Check.due("of 10 DENTS on this DAY", 1, dent.blows(0));

        Edges.promise(25, "BLOWS; -2: not by then; NONE: no such TIN.");
        TinNation y = Check.nation(KIND + "tin a k 0 99 0;tin b k 0 50 1;open b 50;");
        Check.due("not by then", -2, y.blows(0));
        Check.due("it is opened before", -2, y.blows(1));
        y.open(1);
        Check.due("it is OPEN", -2, y.blows(1));
        y.go(3);
        Check.due("it is EMPTY", -2, y.blows(1));
        Edges.none("blows", -1, 0, 1, y::blows);
        Edges.none("blows of a new one", -1, 0, -1, new TinNation()::blows);
    }

    private static void tried() {
        Edges.passage(3, "TRIED for n DAYS as it goes: GLORY more: 0 as it goes,");
        TinNation x = Check.nation(KIND + "tin a k 0 99 0;open a 97;want k 97 1;want k 98 2;want k 99 4;");
        for (int what : new int[] {0, 1, 3, 4, 5}) {
            Check.due("no DAYS, what " + what, 0, x.tried(what, 0, 0));
            Check.due("97 DAYS, what " + what, 0, x.tried(what, 0, 97));
            Check.due("98 DAYS, what " + what, 1, x.tried(what, 0, 98));
            Check.due("99 DAYS, what " + what, 3, x.tried(what, 0, 99));
        }
        x.go(1);
        Check.due("99 DAYS from DAY 1", 7, x.tried(0, 0, 99));
        x.go(97);
        Check.due("GLORY more", 6, x.tried(0, 0, 99));

        Edges.passage(3, "1 no rust,");
        for (int rust : new int[] {49, 50, 100}) {
            TinNation y = Check.nation(KIND + "tin a k 9 99 0;open a 1;want k 1 7;rust " + rust + ";");
            Check.due("as it goes, rust " + rust, rust < 50 ? 7 : 0, y.tried(0, 0, 5));
            Check.due("no rust, rust " + rust, 7, y.tried(1, 0, 5));
        }
        TinNation keeps = Check.nation(KIND + "tin a k 0 1 0;open a 2;want k 2 7;");
        Check.due("KEEPS is as it is", 0, keeps.tried(1, 0, 5));
        TinNation law = Check.nation(KIND + "tin a k 9 99 0;open a 1;want k 1 7;law blow 100;");
        Check.due("nor by a law", 7, law.tried(1, 0, 5));
        TinNation ten = Check.nation(KIND + "tin a k 9 99 0;open a 1;want k 1 7;");
        ten.dent(0);
        Check.due("10 DENTS are 10", 0, ten.tried(1, 0, 5));

        Edges.passage(3, "2 TIN i is never opened (as if no open of it were told),");
        TinNation two = Check.nation(KIND + "tin a k 0 99 0;tin b k 0 99 1;tin c k 0 99 2;open a 0;open b 0;open a 1;want k 0 1;want k 0 2;keys 1;");
        Check.due("as it goes", 1, two.tried(0, 0, 5));
        Check.due("the key is the next one's", 1, two.tried(2, 0, 5));
        Check.due("the second had none", 1, two.tried(2, 1, 5));
        Check.due("of the third none is told", 1, two.tried(2, 2, 5));
        TinNation only = Check.nation(KIND + "tin a k 0 99 0;tin b k 0 99 0;open b 0;open a 0;want k 0 1;want k 0 2;");
        Check.due("as it goes", 3, only.tried(0, 0, 5));
        Check.due("the upper one stays, so the lower one, too", 0, only.tried(2, 1, 5));
        Check.due("the lower one stays", 1, only.tried(2, 0, 5));
        only.open(1);
        Check.due("one that is OPEN is as it is", 3, only.tried(2, 1, 5));
    }

    private static void triedOtherwise() {
        Edges.passage(3, "3 all TINS are ON TOP,");
        TinNation x = Check.nation(KIND + "tin a k 0 99 0;tin b k 0 1 0;tin c k 0 99 0;open a 0;open b 2;open c 5;open c 9;want k 0 1;want k 2 2;want k 5 4;want k 9 8;law fresh 1;");
        Check.due("as it goes", 4, x.tried(0, 0, 20));
        Check.due("the lowest is, but a BLOWN or an EMPTY one isn't opened", 5, x.tried(3, 0, 20));
        TinNation key = Check.nation(KIND + "tin a k 0 99 0;tin b k 0 99 0;open a 0;open b 0;want k 0 1;want k 0 2;keys 1;");
        Check.due("keys are as they are", 1, key.tried(3, 0, 20));

        Edges.passage(3, "4 there are 20 keys now,");
        for (int keys : new int[] {0, 1, 2, 20}) {
            TinNation y = Check.nation(KIND + "tin a k 0 99 0;tin b k 0 99 1;open a 0;open b 0;want k 0 1;want k 0 2;keys " + keys + ";");
            Check.due("as it goes with " + keys, keys == 0 ? 0 : keys == 1 ? 1 : 3, y.tried(0, 0, 1));
            Check.due("with 20 in place of " + keys, 3, y.tried(4, 0, 1));
            Check.due("keys stay", keys, y.count(12));
        }
        TinNation below = Check.nation(KIND + "tin a k 0 99 0;tin b k 0 99 0;open a 0;want k 0 1;keys 0;");
        Check.due("ON TOP is as it is", 0, below.tried(4, 0, 1));

        Edges.passage(3, "5 nothing OPEN goes off.");
        TinNation off = Check.nation(KIND + "tin a k 0 99 0;want k 0 1;want k 1 2;want k 50 4;want k 98 8;law fresh 1;");
        off.open(0);
        Check.due("as it goes", 1, off.tried(0, 0, 99));
        Check.due("for ever", 15, off.tried(5, 0, 99));
        Check.due("up to DAY 97", 7, off.tried(5, 0, 98));
        off.go(1);
        Check.due("one that is EMPTY is as it is", 0, off.tried(5, 0, 99));
        TinNation rust = Check.nation(KIND + "tin a k 9 99 0;open a 1;want k 1 1;rust 50;");
        Check.due("what is CLOSED rusts", 0, rust.tried(5, 0, 99));
    }

    private static void noSuchTried() {
        Edges.promise(34, "TRIED (n 0 .. 99); NONE: no such ones (i 0 of all but 2).");
        TinNation x = Check.nation(KIND + "tin a k 0 99 0;tin b k 0 99 1;open a 0;want k 0 7;");
        for (int what = 0; what <= 5; what++) {
            int asked = what;
            Check.due("the least n, what " + what, 0, x.tried(what, 0, 0));
            Check.due("the most n, what " + what, what == 2 ? 0 : 7, x.tried(what, 0, 99));
            Edges.none("what " + what + ", n", -1, 0, 99, n -> x.tried(asked, 0, n));
            Edges.none("what " + what + ", i", -1, 0, what == 2 ? 1 : 0, i -> x.tried(asked, i, 5));
        }
        Check.due("the last TIN", 7, x.tried(2, 1, 99));
        Edges.none("what", -1, 0, 5, what -> x.tried(what, 0, 5));
        TinNation none = new TinNation();
        Check.due("i 0 without TINS", 0, none.tried(0, 0, 5));
        Check.due("no such TIN", -1, none.tried(2, 0, 5));
    }
}
