/** Promises 16, 18 to 20, 24, 25 and 34: ahead, order, best, tidy, unmet, blows, tried. */
public final class AheadTest {
    public static void main(String[] args) {
        ahead();
        asItGoes();
        order();
        orderOfMany();
        best();
        tidy();
        unmet();
        blows();
        tried();
        nothingIsChanged();
        Check.end("AheadTest");
    }

    private static void ahead() {
        TinNation x = Check.nation("kind k 1 1;tin a k 0 9 0;tin b k 0 9 1;tin c k 0 3 2;open a 1;open b 5;"
                + "want k 0 1;want k 1 20;want k 3 40;want k 99 7;keys 1;");
        int[][] due = {{0, 0, 0, 0, 1}, {0, 0, 1, 0, 1}, {20, 1, 1, 0, 0}, {20, 1, 1, 0, 0}, {60, 2, 1, 1, 0}};
        for (int n = 0; n < 5; n++) {
            for (int what = 0; what < 5; what++) {
                Check.due("ahead(" + n + ", " + what + ")", due[n][what], x.ahead(n, what));
            }
        }
        Check.due("BLOWN later", 2, x.ahead(99, 3));
        Check.due("99 DAYS are DAY 0 to 98", 1, x.ahead(99, 2));
        x.go(4);
        Check.due("GLORY more", 0, x.ahead(9, 0));
        Check.due("BLOWN more", 1, x.ahead(9, 3));
        Check.due("MISSED more", 1, x.ahead(96, 2));
        Check.due("n 100", -1, x.ahead(100, 0));
        Check.due("n below 0", -1, x.ahead(-1, 0));
        Check.due("what 5", -1, x.ahead(1, 5));
        Check.due("what below 0", -1, x.ahead(1, -1));
    }

    private static void asItGoes() {
        for (int rust = 0; rust <= 100; rust += rust < 48 || rust > 51 ? 7 : 1) {
            TinNation x = Check.nation("kind k 1 1;tin a k 7 99 0;seed 1;rust " + rust + ";");
            Check.due("three DAYS of rust " + rust, rust >= 50 ? 1 : 0, x.ahead(3, 3));
            Check.due("two DAYS of rust " + rust, 0, x.ahead(2, 3));
        }
        TinNation law = Check.nation("kind k 1 1;tin a k 7 99 0;tin b k 7 98 0;rust 100;law blow keeps-49;");
        Check.due("by the law, 50 at least", 1, law.ahead(3, 3));
        TinNation error = Check.nation("kind k 1 1;tin a k 7 99 0;rust 50;law blow 1/0;");
        Check.due("with an ERROR as told", 1, error.ahead(3, 3));
    }

    private static void order() {
        // b is wanted on DAYS 0 and 1 alone, a on DAY 3 alone: b ahead of a, though b lies below
        TinNation x = Check.nation("kind j 1 1;kind k 1 1;tin a j 0 50 0;tin b k 0 50 0;tin c j 0 50 0;"
                + "want k 0 10;want j 3 30;want j 3 4;law fresh 3;");
        Check.due("first", 1, x.order(0));
        Check.due("second", 0, x.order(1));
        Check.due("third", 2, x.order(2));
        Check.due("no fourth", -2, x.order(3));
        Check.due("GLORY", 44, x.order(4));
        Check.due("what 5", -1, x.order(5));
        Check.due("what below 0", -1, x.order(-1));
        // one key: who is first has it, and the told open of a goes without
        TinNation key = Check.nation("kind j 1 1;kind k 1 1;tin a j 0 50 0;tin b k 0 50 0;want k 0 10;want j 0 11;keys 1;open b 1;");
        Check.due("with one key the one that is worth more", 0, key.order(0));
        Check.due("GLORY by it", 11, key.order(4));
        key.open(1);
        Check.due("one is left", 0, key.order(0));
        Check.due("no more", -2, key.order(1));
        Check.due("no key for it", 10, key.order(4));
        TinNation none = Check.nation("kind k 1 1;want k 0 1;");
        Check.due("none", -2, none.order(0));
        Check.due("no GLORY", 0, none.order(4));
        // in 20 DAYS, the twentieth is DAY 19
        TinNation last = Check.nation("kind k 1 1;tin a k 0 99 0;open a 17;want k 18 1;want k 19 2;want k 20 4;keys 1;tin b k 0 99 1;");
        Check.due("one key, so it is gone on DAY 0", 0, last.order(4));
        TinNation late = Check.nation("kind k 1 1;tin a k 0 99 0;tin b k 0 99 1;tin c k 0 99 1;tin d k 0 99 1;tin e k 0 99 2;"
                + "open e 18;want k 18 1;want k 19 2;want k 20 4;");
        Check.due("20 DAYS", 3, late.order(4));
    }

    private static void orderOfMany() {
        // five are CLOSED: the first four of them, one a DAY, each wanted on another DAY alone
        TinNation x = Check.nation("kind a 1 1;kind b 1 1;kind c 1 1;kind d 1 1;kind e 1 1;tin a a 0 50 0;tin b b 0 50 0;"
                + "tin c c 0 50 0;tin d d 0 50 0;tin e e 0 50 0;law fresh 1;"
                + "want d 0 1;want b 1 1;want c 2 1;want a 3 1;want e 0 90;want a 0 1;");
        int[] due = {3, 1, 2, 0, 4};
        for (int what = 0; what < 5; what++) {
            Check.due("order(" + what + ") of five", due[what], x.order(what));
        }
        TinNation same = Check.nation("kind k 1 1;tin a k 0 50 0;tin b k 0 50 0;tin c k 0 50 0;tin d k 0 50 0;tin e k 0 50 0;");
        for (int what = 0; what < 4; what++) {
            Check.due("of several the first, " + what, what, same.order(what));
        }
        same.open(4);
        same.open(3);
        Check.due("the first that are CLOSED", -2, same.order(3));
        // a told open comes ahead of its turn: it is OPEN then and stays as it is
        TinNation told = Check.nation("kind j 1 1;kind k 1 1;tin a j 0 50 0;tin b k 0 50 1;open b 0;want k 3 9;want j 0 20;law fresh 3;");
        Check.due("one that is OPEN by then isn't opened again", 20, told.order(4));
    }

    private static void best() {
        TinNation x = Check.nation("kind k 1 1;tin a k 0 50 0;tin b k 0 50 0;want k 4 10;want k 5 10;want k 6 10;want k 9 25;law fresh 3;");
        Check.due("it is FRESH on DAYS 4 to 6", 4, x.best(0, 0));
        Check.due("GLORY by it", 30, x.best(0, 1));
        Check.due("wherever it lies", 4, x.best(1, 0));
        TinNation none = Check.nation("kind k 1 1;tin a k 0 50 0;");
        Check.due("the first of several", 0, none.best(0, 0));
        Check.due("no GLORY", 0, none.best(0, 1));
        TinNation far = Check.nation("kind k 1 1;tin a k 0 99 0;want k 20 5;want k 21 7;want k 29 9;want k 30 20;law fresh 9;");
        Check.due("from the 20th DAY on nine are FRESH, up to 28", 13, far.best(0, 0));
        Check.due("GLORY by it", 12, far.best(0, 1));
        TinNation last = Check.nation("kind k 1 1;tin a k 0 99 0;tin b k 0 99 1;open b 28;want k 29 9;want k 30 20;");
        Check.due("30 DAYS, the last is DAY 29", 9, last.best(0, 1));
        TinNation blown = Check.nation("kind k 1 1;tin a k 0 3 0;want k 9 5;want k 3 1;law fresh 1;");
        Check.due("behind its BLOWN day it isn't opened", 3, blown.best(0, 0));
        Check.due("so it gains no more", 1, blown.best(0, 1));
        TinNation key = Check.nation("kind k 1 1;tin a k 0 50 0;want k 2 5;keys 0;");
        Check.due("without a key it stays", 0, key.best(0, 1));
        none.open(0);
        Check.due("it isn't CLOSED", -2, none.best(0, 0));
        Check.due("it isn't CLOSED", -2, none.best(0, 1));
        Check.due("what 2", -1, none.best(0, 2));
        Check.due("what below 0", -1, x.best(0, -1));
        Check.due("no such tin", -1, x.best(2, 0));
        Check.due("tin below 0", -1, x.best(-1, 0));
    }

    private static void tidyIs(int due, int... keeps) {
        StringBuilder text = new StringBuilder("kind k 1 1;");
        for (int i = 0; i < keeps.length; i++) {
            text.append("tin ").append((char) ('a' + i)).append(" k 0 ").append(keeps[i]).append(" 3;");
        }
        Check.due("tidy of <" + text + ">", due, Check.nation(text.toString()).tidy(3));
    }

    private static void tidy() {
        tidyIs(0);
        tidyIs(0, 5);
        tidyIs(0, 5, 5);
        tidyIs(0, 9, 5);
        tidyIs(1, 5, 9);
        tidyIs(2, 9, 5, 20);
        tidyIs(2, 5, 6, 7);
        tidyIs(1, 9, 3, 7);
        tidyIs(1, 3, 9, 7);
        tidyIs(1, 5, 9, 5);
        tidyIs(2, 5, 5, 9);
        tidyIs(2, 8, 9, 8, 7);
        tidyIs(7, 1, 2, 3, 4, 5, 6, 7, 8);
        tidyIs(0, 8, 7, 6, 5, 4, 3, 2, 1);
        tidyIs(7, 8, 7, 6, 5, 4, 3, 2, 9);
        TinNation x = Check.nation("kind k 1 1;tin a k 0 5 0;tin b k 0 9 0;tin c k 0 7 1;");
        Check.due("b isn't in order", 1, x.tidy(0));
        x.open(1);
        Check.due("what isn't CLOSED doesn't count", 0, x.tidy(0));
        x.put(2, 0);
        Check.due("as they were put", 1, x.tidy(0));
        Check.due("empty", 0, x.tidy(2));
        Check.due("no such stack", -1, x.tidy(4));
        Check.due("stack below 0", -1, x.tidy(-1));
    }

    private static void unmet() {
        TinNation x = Check.nation("kind j 1 1;kind k 1 1;kind l 1 1;tin a j 0 2 0;tin b k 0 50 1;want j 0 1;want j 9 1;want k 9 1;want l 9 1;");
        Check.due("none of its KIND", 8, x.unmet());
        x.open(1);
        Check.due("OPEN is as good", 8, x.unmet());
        x.go(3);
        Check.due("EMPTY and BLOWN are not", 14, x.unmet());
        x.go(7);
        Check.due("none to come", 0, x.unmet());
    }

    private static void blows() {
        TinNation x = Check.nation("kind k 1 1;tin a k 0 98 0;tin b k 0 99 1;tin c k 5 90 2;tin d k 0 20 3;open d 3;law blow 100*(dents>=5);");
        Check.due("behind DAY 98", 99, x.blows(0));
        Check.due("behind DAY 99", -2, x.blows(1));
        Check.due("by rust", 5, x.blows(2));
        Check.due("it is opened", -2, x.blows(3));
        x.go(1);
        Check.due("a DAY less", 99, x.blows(1));
        Check.due("a DAY less", 4, x.blows(2));
        x.go(4);
        Check.due("it is", 0, x.blows(2));
        Check.due("it is OPEN", -2, x.blows(3));
        Check.due("no such tin", -1, x.blows(4));
        Check.due("tin below 0", -1, x.blows(-1));
        x.dent(0);
        Check.due("dents by call count", 94, x.blows(0));
    }

    private static void tried() {
        // a lies below b; c has 9 DENTS and would be BLOWN by rust before it is opened
        TinNation x = Check.nation("kind k 1 1;kind j 1 1;tin a k 0 90 0;tin b k 0 90 0;tin c j 9 90 1;"
                + "open a 0;open c 1;open b 2;want k 0 1;want k 2 2;want k 6 4;want j 1 8;keys 1;rust 50;law fresh 3;");
        Check.due("as it goes: b on DAY 2", 2, x.tried(0, 0, 99));
        Check.due("no rust: the key is c's on DAY 1", 8, x.tried(1, 0, 99));
        Check.due("b is never opened", 0, x.tried(2, 1, 99));
        Check.due("a is never opened", 2, x.tried(2, 0, 99));
        Check.due("all ON TOP: a on DAY 0", 3, x.tried(3, 0, 99));
        Check.due("20 keys: a is below b still", 2, x.tried(4, 0, 99));
        Check.due("nothing goes off: b on DAY 6", 6, x.tried(5, 0, 99));
        Check.due("DAY 0 to 5", 2, x.tried(5, 0, 6));
        Check.due("DAY 0 to 6", 6, x.tried(5, 0, 7));
        Check.due("no DAYS", 0, x.tried(3, 0, 0));
        TinNation keys = Check.nation("kind k 1 1;tin a k 0 90 0;open a 0;want k 0 5;keys 0;");
        Check.due("without a key", 0, keys.tried(0, 0, 5));
        Check.due("with 20", 5, keys.tried(4, 0, 5));
        Check.due("what 6", -1, x.tried(6, 0, 1));
        Check.due("what below 0", -1, x.tried(-1, 0, 1));
        Check.due("n 100", -1, x.tried(0, 0, 100));
        Check.due("n below 0", -1, x.tried(0, 0, -1));
        Check.due("no such tin", -1, x.tried(2, 3, 1));
        Check.due("tin below 0", -1, x.tried(2, -1, 1));
        for (int what = 0; what < 6; what++) {
            Check.due("i 1 of " + what, what == 2 ? 0 : -1, x.tried(what, 1, 1));
        }
    }

    private static void nothingIsChanged() {
        TinNation x = Check.nation("kind k 1 1;tin a k 0 9 0;tin b k 7 90 1;open a 1;want k 1 20;rust 40;seed 1;");
        x.ahead(99, 0);
        x.order(4);
        x.best(0, 1);
        x.blows(1);
        x.tried(3, 0, 99);
        x.tried(5, 0, 99);
        x.tried(1, 0, 99);
        x.chance(7, 99, 1);
        x.dented(0);
        int[] due = {1, 2, 1, 0, 0, 2, 0, 0, 0, 0, 0, 0, 20, 0, 0, 0};
        for (int what = 0; what < due.length; what++) {
            Check.due("count(" + what + ") behind questions", due[what], x.count(what));
        }
        x.go(1);
        Check.due("rust by the seed, 38", 1, x.tin(0, 1));
        Check.due("rust by the seed, 58", 7, x.tin(1, 1));
        x.go(1);
        Check.due("opened and FRESH for two more DAYS", 2, x.tin(0, 5));
        Check.due("rust by the seed, 13", 8, x.tin(1, 1));
    }
}
