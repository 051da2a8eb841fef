/** The edges that the promises 11 to 15 and 35 to 37 and the passage '==== 4.' name: open, put, dent, find, go, undo, keep, back. */
final class EdgeCalls {
    private static final String THREE = "kind k 1 1;tin a k 0 99 0;tin b k 8 99 0;tin c k 0 2 3;";

    private EdgeCalls() {
    }

    static void run() {
        open();
        put();
        dent();
        find();
        go();
        goNoFarther();
        canBeUndone();
        twentyAtMost();
        noDayWentBy();
        undo();
        image();
        keep();
        back();
        calls();
    }

    /** How all stands, to see that a call that is refused leaves it. */
    private static String all(TinNation x) {
        StringBuilder all = new StringBuilder();
        for (int what = 0; what <= 15; what++) {
            all.append(x.count(what)).append(' ');
        }
        for (int tin = 0; tin < x.count(1); tin++) {
            for (int what = 0; what <= 6; what++) {
                all.append(x.tin(tin, what)).append(' ');
            }
            all.append(x.above(tin)).append(' ');
        }
        for (int want = 0; want < x.count(2); want++) {
            all.append(x.want(want, 3)).append(' ');
        }
        return all.toString();
    }

    private static void stays(String what, TinNation x, String as) {
        Check.due(what + ": all stays as <" + as + ">, is <" + all(x) + ">", true, all(x).equals(as));
    }

    private static void open() {
        Edges.promise(11, "A TIN that is ON TOP is opened with a key (as in (1)): for how many DAYS it is FRESH;");
        TinNation x = Check.nation(THREE + "keys 2;law fresh dents;");
        Check.due("by the law", 8, x.open(1));
        Check.due("it is OPEN", 1, x.tin(1, 4));
        Check.due("FRESH", 8, x.tin(1, 5));
        Check.due("a key less", 1, x.count(12));
        Check.due("the one below, one DAY at least, by the last key", 1, x.open(0));
        Check.due("no key is left", 0, x.count(12));
        Check.due("nothing is REFUSED", 0, x.count(11));

        Edges.promise(11, "-2: it isn't ON TOP, there is no key; NONE: no such TIN.");
        String as = all(x);
        Check.due("ON TOP, but there is no key", -2, x.open(2));
        stays("no key", x, as);
        x.find(1);
        as = all(x);
        Check.due("it is OPEN", -2, x.open(0));
        Edges.none("open", -1, 0, 2, x::open);
        stays("OPEN, no such TINS", x, as);
        Check.due("with a key again", 1, x.open(2));
        TinNation y = Check.nation(THREE);
        as = all(y);
        Check.due("one lies on it", -2, y.open(0));
        stays("one lies on it", y, as);
        y.go(3);
        Check.due("it is BLOWN", -2, y.open(2));
        y.open(1);
        y.go(3);
        Check.due("it is EMPTY", -2, y.open(1));
        Check.due("nothing is REFUSED", 0, y.count(11));
        Edges.none("open of a new one", -1, 0, -1, new TinNation()::open);
        TinNation none = Check.nation(THREE + "keys 0;");
        Check.due("no keys told", -2, none.open(1));
        Edges.none("open without keys", -1, 0, 2, none::open);
    }

    private static void put() {
        Edges.promise(12, "A TIN that is ON TOP is put on top of a STACK: true;");
        TinNation x = Check.nation(THREE);
        for (int stack : new int[] {1, 2, 3, 0, 3, 1}) {
            Check.due("to STACK " + stack, true, x.put(1, stack));
            Check.due("its STACK", stack, x.tin(1, 3));
            Check.due("it is ON TOP there", 1, x.top(stack));
            Check.due("of a, if that one's", Edges.bit(stack == 0), x.above(0));
            Check.due("of c, if that one's", Edges.bit(stack == 3), x.above(2));
        }
        Check.due("the one below", true, x.put(0, 3));
        Check.due("on top of another", 0, x.top(3));
        Check.due("none is left", -2, x.top(0));
        TinNation all = Check.nation("kind k 1 1;tin a k 0 9 0;tin b k 0 9 0;tin c k 0 9 0;tin d k 0 9 0;tin e k 0 9 0;tin f k 0 9 0;tin g k 0 9 0;tin h k 0 9 0;");
        for (int tin = 7; tin >= 0; tin--) {
            Check.due("one by one, " + tin, true, all.put(tin, 3));
            Check.due("the last one put is ON TOP", tin, all.top(3));
            Check.due("how many lie on the first one put", 7 - tin, all.above(7));
        }

        Edges.promise(12, "false: no such ones, it isn't ON TOP, it is that one's.");
        TinNation y = Check.nation(THREE);
        String as = all(y);
        Edges.none("put to STACK", 0, 0, 3, stack -> Edges.bit(y.put(1, stack)));
        Edges.none("put of TIN", 0, 0, 2, tin -> Edges.bit(y.put(tin, 1)));
        Check.due("one lies on it", false, y.put(0, 1));
        Check.due("its own STACK", false, y.put(1, 0));
        Check.due("its own STACK, the last", false, y.put(2, 3));
        stays("none of it is put", y, as);
        y.open(1);
        Check.due("it is OPEN", false, y.put(1, 2));
        y.go(3);
        Check.due("it is EMPTY", false, y.put(1, 2));
        Check.due("it is BLOWN", false, y.put(2, 2));
        Check.due("one that only such lie on", true, y.put(0, 2));
    }

    private static void dent() {
        Edges.promise(13, "A TIN that is CLOSED has a DENT more (of one of 9: 10, and it isn't BLOWN before (5)): DENTS;");
        TinNation x = Check.nation(THREE);
        for (int dents = 1; dents <= 9; dents++) {
            Check.due("below another", dents, x.dent(0));
        }
        Check.due("9 of 8", 9, x.dent(1));
        Check.due("10 of 9", 10, x.dent(1));
        Check.due("CLOSED", 0, x.tin(1, 4));
        Check.due("still ON TOP", 1, x.top(0));
        Check.due("none is BLOWN", 0, x.count(7));
        x.go(0);
        Check.due("CLOSED still", 0, x.tin(1, 4));
        x.go(1);
        Check.due("BLOWN in (5)", 3, x.tin(1, 4));
        Check.due("9 DENTS are not too many", 0, x.tin(0, 4));
        TinNation open = Check.nation(THREE);
        open.dent(1);
        open.dent(1);
        Check.due("one of 10 can be opened before (5)", 3, open.open(1));

        Edges.promise(13, "NONE: no such TIN, it isn't CLOSED, has 10.");
        TinNation y = Check.nation(THREE);
        y.dent(1);
        y.dent(1);
        String as = all(y);
        Check.due("it has 10", -1, y.dent(1));
        Edges.none("dent", -1, 0, 2, y::dent);
        stays("none of it is dented", y, as);
        y.open(1);
        Check.due("it is OPEN", -1, y.dent(1));
        y.open(0);
        Check.due("it is OPEN, of 0", -1, y.dent(0));
        y.go(3);
        Check.due("it is EMPTY", -1, y.dent(0));
        Check.due("it is BLOWN", -1, y.dent(2));
        Edges.none("dent of a new one", -1, 0, -1, new TinNation()::dent);
    }

    private static void find() {
        Edges.promise(14, "So many keys 1 .. 9 are found, 99 at most then: keys;");
        TinNation x = Check.nation("keys 0;");
        Check.due("1", 1, x.find(1));
        Check.due("9", 10, x.find(9));
        for (int i = 2; i <= 10; i++) {
            Check.due("9 more", 1 + 9 * i, x.find(9));
        }
        Check.due("98", 98, x.find(7));
        Check.due("99", 99, x.find(1));
        TinNation nine = Check.nation("keys 18;");
        for (int i = 1; i <= 9; i++) {
            Check.due("9 more", 18 + 9 * i, nine.find(9));
        }
        TinNation fewer = new TinNation();
        Check.due("of a new one", 28, fewer.find(8));
        Check.due("2", 30, fewer.find(2));

        Edges.promise(14, "NONE: no such number, there would be more.");
        String as = all(x);
        for (int keys = 1; keys <= 9; keys++) {
            Check.due("99 and " + keys, -1, x.find(keys));
            Check.due("99 and " + keys, -1, nine.find(keys));
        }
        stays("none is found", x, as);
        nine.undo();
        nine.find(8);
        Check.due("98 and 2", -1, nine.find(2));
        Check.due("98 and 1", 99, nine.find(1));
        TinNation y = Check.nation("keys 5;");
        Edges.none("find", -1, 1, 9, y::find);
        Check.due("keys stay", 5, y.count(12));
        Check.due("nothing to undo", 0, y.count(15));
    }

    private static void go() {
        Edges.promise(15, "So many DAYS (0 .. 99) go by: which one it is;");
        TinNation x = Check.nation(THREE + "want k 0 5;want k 1 5;open b 0;");
        String as = all(x);
        Check.due("none", 0, x.go(0));
        stays("go(0)", x, as);
        Check.due("one", 1, x.go(1));
        Check.due("one WANT", 1, x.count(9));
        Check.due("98 more", 99, x.go(98));
        Check.due("99 more", 198, x.go(99));
        TinNation once = Check.nation(THREE + "want k 98 5;want k 99 5;");
        Check.due("99 at once", 99, once.go(99));
        Check.due("DAY 98 is the last of them", 1, once.count(10));
        TinNation ten = Check.nation(THREE + "seed 5;rust 30;want k 5 1;open b 3;");
        TinNation one = Check.nation(THREE + "seed 5;rust 30;want k 5 1;open b 3;");
        ten.go(10);
        for (int i = 0; i < 10; i++) {
            one.go(1);
        }
        stays("ten at once are as ten by one", ten, all(one));

        Edges.promise(15, "NONE, and none does: no such number,");
        as = all(ten);
        Edges.none("go", -1, 0, 99, ten::go);
        stays("none goes by", ten, as);
        ten.find(1);
        ten.go(100);
        Check.due("so what was done can be undone", 1, ten.count(15));
    }

    private static void goNoFarther() {
        Edges.promise(15, "behind 9900.");
        TinNation x = new TinNation();
        for (int i = 0; i < 99; i++) {
            x.go(99);
        }
        Check.due("9801", 9801, x.count(4));
        Check.due("98 more", 9899, x.go(98));
        Check.due("9901", -1, x.go(2));
        Check.due("9998", -1, x.go(99));
        Check.due("none did", 9899, x.count(4));
        x.find(1);
        Check.due("9901 still", -1, x.go(2));
        Check.due("what was done can be undone", 1, x.count(15));
        Check.due("9900", 9900, x.go(1));
        Check.due("none of 9900", 9900, x.go(0));
        Check.due("one of 9900", -1, x.go(1));
        Check.due("99 of 9900", -1, x.go(99));
        Check.due("it is", 9900, x.count(4));
        TinNation y = new TinNation();
        for (int i = 1; i <= 100; i++) {
            Check.due("99 more", 99 * i, y.go(99));
        }
        Check.due("no more", -1, y.go(1));
        Check.due("an IMAGE of it", 9900, y.keep());
        Check.due("AHEAD of it", 20, y.ahead(99, 4));
    }

    private static void canBeUndone() {
        Edges.passage(4, "Opening, stacking, dents, keys by call can be undone, the latest first");
        TinNation x = Check.nation(THREE + "keys 1;law fresh 5;");
        String[] as = new String[8];
        as[0] = all(x);
        x.put(1, 3);
        as[1] = all(x);
        x.put(0, 3);
        as[2] = all(x);
        x.put(0, 1);
        as[3] = all(x);
        x.dent(1);
        as[4] = all(x);
        x.dent(1);
        as[5] = all(x);
        x.open(1);
        as[6] = all(x);
        x.find(9);
        as[7] = all(x);
        Check.due("an OPEN one, 10 DENTS", 10, x.tin(1, 1));
        for (int left = 6; left >= 0; left--) {
            Check.due("undo", left, x.undo());
            stays("as it was ahead of the latest", x, as[left]);
        }
        Check.due("nothing is left", -1, x.undo());
        stays("as it was at first", x, as[0]);
        // what is refused, asked, told or kept is nothing to undo
        x.find(2);
        x.open(0);
        x.put(0, 1);
        x.dent(7);
        x.find(0);
        x.note(0, 1, true);
        x.see(1, 0, true);
        x.strike(0);
        x.known(1);
        x.keep();
        x.order(0);
        x.best(0, 0);
        x.go(0);
        x.ahead(5, 0);
        x.chance(1, 5, 1);
        x.feed(0, 0, 0, 0, 0);
        Check.due("the one that was done", 1, x.count(15));
        Check.due("the one that was done, undone", 0, x.undo());
        Check.due("keys", 1, x.count(12));
    }

    private static void twentyAtMost() {
        Edges.passage(4, "(20 at most),");
        for (int done : new int[] {19, 20, 21, 40}) {
            TinNation x = new TinNation();
            for (int i = 0; i < done; i++) {
                x.find(1);
                Check.due("can be undone of " + (i + 1), Math.min(20, i + 1), x.count(15));
            }
            int most = Math.min(20, done);
            for (int left = most - 1; left >= 0; left--) {
                Check.due("undo of " + done, left, x.undo());
            }
            Check.due("no more of " + done, -1, x.undo());
            Check.due("the latest of " + done + " are undone", 20 + done - most, x.count(12));
        }
        // the first one goes as the 21st comes, whatever they are
        TinNation y = Check.nation(THREE);
        y.open(1);
        for (int i = 0; i < 20; i++) {
            y.put(2, i % 2 == 0 ? 1 : 2);
        }
        for (int i = 0; i < 20; i++) {
            y.undo();
        }
        Check.due("the opening stays", 1, y.tin(1, 4));
        Check.due("the stackings are undone", 3, y.tin(2, 3));
        Check.due("none is left", -1, y.undo());
        y.find(1);
        Check.due("from there on again", 1, y.count(15));
    }

    private static void noDayWentBy() {
        Edges.passage(4, "if no DAY went by since.");
        TinNation x = new TinNation();
        x.find(1);
        x.find(2);
        x.go(0);
        Check.due("none went by", 2, x.count(15));
        x.go(-1);
        x.go(100);
        Check.due("nor then", 1, x.undo());
        x.go(1);
        Check.due("one went by", 0, x.count(15));
        Check.due("so there is nothing to undo", -1, x.undo());
        Check.due("keys stay", 21, x.count(12));
        x.find(3);
        Check.due("what is done since can be", 0, x.undo());
        Check.due("keys", 21, x.count(12));
    }

    private static void undo() {
        Edges.promise(35, "The latest is undone: how many are left; NONE: none.");
        TinNation x = Check.nation(THREE);
        Check.due("none at first", -1, x.undo());
        x.dent(0);
        Check.due("the only one", 0, x.undo());
        Check.due("DENTS as they were", 0, x.tin(0, 1));
        Check.due("none then", -1, x.undo());
        x.dent(0);
        x.dent(1);
        Check.due("the latest of two", 1, x.undo());
        Check.due("the later one", 8, x.tin(1, 1));
        Check.due("not the earlier one", 1, x.tin(0, 1));
        x.find(1);
        Check.due("what came in its place", 1, x.undo());
        Check.due("and the first", 0, x.undo());
        Check.due("none", -1, x.undo());
        // 99 keys, and one that comes back
        TinNation keys = Check.nation(THREE + "keys 20;");
        for (int i = 0; i < 8; i++) {
            keys.find(9);
        }
        keys.find(7);
        keys.open(1);
        Check.due("98", 98, keys.count(12));
        keys.undo();
        Check.due("99", 99, keys.count(12));
        Check.due("no more", -1, keys.find(1));
    }

    private static void image() {
        Edges.passage(4, "An IMAGE keeps all but NOTES and SIGHTS.");
        TinNation x = Check.nation(THREE + "want k 1 5;want k 4 6;open b 1;open b 4;rust 50;seed 7;law fresh 2;");
        TinNation y = Check.nation(THREE + "want k 1 5;want k 4 6;open b 1;open b 4;rust 50;seed 7;law fresh 2;");
        x.go(2);
        y.go(2);
        x.note(0, 50, true);
        x.keep();
        x.note(0, 60, true);
        x.see(5, 0, true);
        x.put(0, 2);
        x.put(0, 3);
        x.put(0, 1);
        x.dent(0);
        x.find(9);
        x.go(5);
        Check.due("another DAY", 7, x.count(4));
        x.back();
        Check.due("NOTES and SIGHTS are as they are", 3, x.count(13));
        Check.due("they are numbered on", 3, x.strike(2));
        for (int what = 0; what <= 12; what++) {
            Check.due("count(" + what + ")", y.count(what), x.count(what));
        }
        for (int days = 0; days < 8; days++) {
            for (int tin = 0; tin < 3; tin++) {
                for (int what = 0; what <= 6; what++) {
                    Check.due("tin(" + tin + ", " + what + ") " + days + " DAYS later", y.tin(tin, what), x.tin(tin, what));
                }
                Check.due("above(" + tin + ")", y.above(tin), x.above(tin));
            }
            x.go(1);
            y.go(1);
        }
    }

    private static void keep() {
        Edges.promise(36, "An IMAGE is kept (in place of one ahead): which DAY it is.");
        TinNation x = Check.nation(THREE);
        Check.due("on DAY 0", 0, x.keep());
        Check.due("on DAY 0 again", 0, x.keep());
        x.find(1);
        x.go(3);
        Check.due("on DAY 3", 3, x.keep());
        x.find(1);
        Check.due("on DAY 3, later", 3, x.keep());
        x.find(1);
        x.go(2);
        Check.due("the latest one", 3, x.back());
        Check.due("its keys", 22, x.count(12));
        x.go(4);
        Check.due("the same again", 3, x.back());
        Check.due("what was done stays undoable behind keep()", 0, x.count(15));
        x.find(1);
        x.keep();
        Check.due("keep() leaves what can be undone", 1, x.count(15));
        x.undo();
        Check.due("and undo() leaves the IMAGE", 3, x.back());
        Check.due("its keys", 23, x.count(12));
        for (int i = 0; i < 99; i++) {
            x.go(99);
        }
        x.go(96);
        Check.due("on the last DAY", 9900, x.keep());
        x.back();
        Check.due("and no DAY goes by there", -1, x.go(1));
    }

    private static void back() {
        Edges.promise(37, "All (but NOTES and SIGHTS) is as in the IMAGE (nothing to undo then): which DAY it is;");
        TinNation x = Check.nation(THREE);
        String first = all(x);
        x.keep();
        x.find(1);
        x.dent(1);
        x.open(1);
        Check.due("on the same DAY", 0, x.back());
        stays("as in the IMAGE", x, first);
        Check.due("nothing to undo", -1, x.undo());
        x.go(99);
        Check.due("from DAY 99", 0, x.back());
        stays("as in the IMAGE once more", x, first);
        x.go(1);
        x.find(1);
        x.keep();
        Check.due("at once", 1, x.back());
        Check.due("nothing to undo, though there was when it was kept", 0, x.count(15));

        TinNation serving = Check.nation(THREE + "want k 0 5;want k 1 6;open a 0;law fresh 5;");
        serving.open(1);
        serving.go(1);
        first = all(serving);
        serving.keep();
        serving.go(1);
        Check.due("two SERVED", 2, serving.tin(0, 6) + serving.tin(1, 6));
        serving.back();
        stays("SERVED and WANTS as in the IMAGE", serving, first);
        Check.due("one SERVED", 1, serving.tin(0, 6));
        Check.due("the second WANT is to come", 0, serving.want(1, 3));

        Edges.promise(37, "NONE: there is none.");
        TinNation y = new TinNation();
        y.find(1);
        Check.due("of a new one", -1, y.back());
        Check.due("nothing is undone by it", 1, y.count(15));
        y.keep();
        Check.due("behind keep()", 0, y.back());
        Check.tell(y, "!");
        Check.due("behind a text with a FAULT", 0, y.back());
        Check.tell(y, "keys 3;");
        Check.due("behind a text", -1, y.back());
        Check.due("keys", 3, y.count(12));
        y.keep();
        y.text(0);
        Check.due("behind a text without LINES", -1, y.back());
    }

    private static void calls() {
        Edges.whatItIs("An object is used for at most 512 calls after it has been made;");
        TinNation x = new TinNation();
        for (int i = 0; i < 510; i++) {
            x.go(i < 99 ? 99 : 0);
        }
        Check.due("the 511th", 9804, x.go(3));
        Check.due("the 512th", 9804, x.count(4));
        Edges.whatItIs("what later calls answer is free.");
        Check.due("the 513th ends", true, x.count(4) >= Integer.MIN_VALUE);
    }
}
