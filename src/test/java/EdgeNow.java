/** The edges that the promises 6 to 10, 17 and 38 name: tin, kind, want, top, law, above, count. */
final class EdgeNow {
    private EdgeNow() {
    }

    static void run() {
        tin();
        noSuchTin();
        kind();
        want();
        top();
        law();
        above();
        leastCounts();
        mostCounts();
        otherCounts();
    }

    /** Eight TINS of one KIND, in one STACK or one by one in four. */
    private static String eight(String keeps, boolean isOneStack) {
        StringBuilder text = new StringBuilder("kind k 1 1;");
        for (int i = 0; i < 8; i++) {
            text.append("tin ").append((char) ('a' + i)).append(" k 0 ").append(keeps).append(' ').append(isOneStack ? 0 : i % 4).append(';');
        }
        return text.toString();
    }

    private static void row(String what, TinNation x, int tin, int... due) {
        for (int i = 0; i < due.length; i++) {
            Check.due("tin(" + tin + ", " + i + ") " + what, due[i], x.tin(tin, i));
        }
    }

    private static void tin() {
        Edges.promise(6, "Of a TIN now, what 0 KIND, 1 DENTS, 2 KEEPS, 3 STACK, 4 CLOSED, OPEN, EMPTY, BLOWN (0 .. 3), "
                + "5 for how many DAYS it is FRESH (0, if it isn't OPEN), 6 how many WANTS it SERVED.");
        TinNation x = Check.nation("kind a 1 1;kind b 1 1;kind c 1 1;kind d 1 1;kind e 1 1;kind f 1 1;"
                + "tin a a 0 1 0;tin b f 8 99 3;tin c f 1 2 3;tin d f 9 99 2;law fresh 9;"
                + "want f 0 1;want f 1 1;want f 2 1;want f 3 1;want f 4 1;want f 5 1;want f 6 1;want f 7 1;");
        row("at first", x, 0, 0, 0, 1, 0, 0, 0, 0);
        row("at first", x, 1, 5, 8, 99, 3, 0, 0, 0);
        row("at first", x, 3, 5, 9, 99, 2, 0, 0, 0);
        Check.due("a ninth dent", 9, x.dent(1));
        Check.due("a tenth dent", 10, x.dent(3));
        row("behind a tenth dent", x, 3, 5, 10, 99, 2, 0, 0, 0);
        Check.due("put away what lies on it", true, x.put(2, 1));
        Check.due("open", 9, x.open(1));
        row("behind a dent, put and open", x, 1, 5, 9, 99, 3, 1, 9, 0);
        row("behind a put", x, 2, 5, 1, 2, 1, 0, 0, 0);
        x.go(1);
        row("keeps one DAY more", x, 0, 0, 0, 1, 0, 0, 0, 0);
        row("BLOWN by its DENTS", x, 3, 5, 10, 99, 2, 3, 0, 0);
        x.go(1);
        row("BLOWN on its DAY", x, 0, 0, 0, 1, 0, 3, 0, 0);
        row("two DAYS later", x, 1, 5, 9, 99, 3, 1, 7, 2);
        x.go(6);
        row("FRESH for one DAY more", x, 1, 5, 9, 99, 3, 1, 1, 8);
        x.go(1);
        row("EMPTY", x, 1, 5, 9, 99, 3, 2, 0, 8);
        row("BLOWN where it was put", x, 2, 5, 1, 2, 1, 3, 0, 0);
        x.go(99);
        row("EMPTY for ever", x, 1, 5, 9, 99, 3, 2, 0, 8);
    }

    private static void noSuchTin() {
        Edges.promise(6, "IndexOutOfBoundsException: no such TIN.");
        TinNation x = Check.nation(eight("9", true));
        for (int what = 0; what <= 6; what++) {
            int asked = what;
            Check.due("the first TIN throws", 0, Check.thrown(x, 0, what));
            Check.due("the last TIN throws", 0, Check.thrown(x, 7, what));
            Edges.none("what is thrown, what " + what + ", tin", 1, 0, 7, tin -> Check.thrown(x, tin, asked));
        }
        TinNation one = Check.nation("kind k 1 1;kind j 1 1;tin t k 0 9 0;");
        Check.due("the only one throws", 0, Check.thrown(one, 0, 0));
        Edges.none("what is thrown of one TIN, tin", 1, 0, 0, tin -> Check.thrown(one, tin, 0));
        Check.tell(x, "kind k 1 1;");
        for (int tin = 0; tin < 9; tin++) {
            Check.due("TINS of the text before: thrown", 1, Check.thrown(x, tin, 0));
        }

        Edges.promise(6, "NoSuchElementException: no such what.");
        Check.due("the first what throws", 0, Check.thrown(one, 0, 0));
        Check.due("the last what throws", 0, Check.thrown(one, 0, 6));
        Edges.none("what is thrown, what", 2, 0, 6, what -> Check.thrown(one, 0, what));
        one.open(0);
        Edges.none("what is thrown of an OPEN one, what", 2, 0, 6, what -> Check.thrown(one, 0, what));
    }

    private static void kind() {
        Edges.promise(7, "Of a KIND, what 0 WEIGHT, 1 SOUND, 2 TINS (bits) of it that are CLOSED, 3 OPEN.");
        TinNation x = Check.nation("kind a 1 0;kind b 99 9;kind c 1 1;kind d 1 1;kind e 1 1;kind f 50 5;tin t a 0 9 0;tin u f 0 1 1;tin v a 0 9 2;");
        int[][] due = {{1, 0, 5, 0}, {99, 9, 0, 0}, {1, 1, 0, 0}, {1, 1, 0, 0}, {1, 1, 0, 0}, {50, 5, 2, 0}};
        for (int kind = 0; kind < 6; kind++) {
            for (int what = 0; what < 4; what++) {
                Check.due("kind(" + kind + ", " + what + ")", due[kind][what], x.kind(kind, what));
            }
        }
        TinNation y = Check.nation(eight("99", true));
        Check.due("eight CLOSED", 255, y.kind(0, 2));
        Check.due("none OPEN", 0, y.kind(0, 3));
        for (int tin = 7; tin >= 0; tin--) {
            y.open(tin);
            Check.due("CLOSED up to " + tin, (1 << tin) - 1, y.kind(0, 2));
            Check.due("OPEN from " + tin + " on", 256 - (1 << tin), y.kind(0, 3));
        }
        y.go(2);
        Check.due("OPEN still", 255, y.kind(0, 3));
        y.go(1);
        Check.due("EMPTY are neither", 0, y.kind(0, 2) + y.kind(0, 3));
        x.go(1);
        Check.due("CLOSED still", 2, x.kind(5, 2));
        x.go(1);
        Check.due("BLOWN are neither", 0, x.kind(5, 2) + x.kind(5, 3));

        Edges.promise(7, "NONE: no such ones.");
        for (int what = 0; what < 4; what++) {
            int asked = what;
            Edges.none("what " + what + " of kind", -1, 0, 5, kind -> x.kind(kind, asked));
            Edges.none("what " + what + " of one kind", -1, 0, 0, kind -> y.kind(kind, asked));
        }
        Edges.none("kind(0, what)", -1, 0, 3, what -> x.kind(0, what));
        Edges.none("kind(5, what)", -1, 0, 3, what -> x.kind(5, what));
        Edges.none("kind(6, what)", -1, 0, 3, what -> x.kind(6, what));
    }

    private static void want() {
        Edges.promise(8, "Of a WANT now, what 0 KIND, 1 DAY, 2 WORTH, 3: 0 to come, 1 MET, 2 MISSED.");
        TinNation x = Check.nation("kind a 1 1;kind b 1 1;tin t b 0 99 0;want b 0 1;want a 0 99;want b 99 50;want a 1 2;want b 1 3;"
                + "want b 1 4;want a 98 5;want b 3 6;law fresh 3;");
        int[][] due = {{1, 0, 1}, {0, 0, 99}, {1, 99, 50}, {0, 1, 2}, {1, 1, 3}, {1, 1, 4}, {0, 98, 5}, {1, 3, 6}};
        for (int want = 0; want < 8; want++) {
            for (int what = 0; what < 3; what++) {
                Check.due("want(" + want + ", " + what + ")", due[want][what], x.want(want, what));
            }
        }
        x.open(0);
        wants(x, 0, 0, 0, 0, 0, 0, 0, 0);
        x.go(1);
        wants(x, 1, 2, 0, 0, 0, 0, 0, 0);
        x.go(1);
        wants(x, 1, 2, 0, 2, 1, 2, 0, 0);
        x.go(2);
        wants(x, 1, 2, 0, 2, 1, 2, 0, 2);
        x.go(94);
        wants(x, 1, 2, 0, 2, 1, 2, 0, 2);
        x.go(1);
        wants(x, 1, 2, 0, 2, 1, 2, 2, 2);
        x.go(1);
        wants(x, 1, 2, 2, 2, 1, 2, 2, 2);

        Edges.promise(8, "NONE: no such ones.");
        for (int what = 0; what < 4; what++) {
            int asked = what;
            Edges.none("what " + what + " of want", -1, 0, 7, want -> x.want(want, asked));
        }
        Edges.none("want(0, what)", -1, 0, 3, what -> x.want(0, what));
        Edges.none("want(7, what)", -1, 0, 3, what -> x.want(7, what));
        TinNation one = Check.nation("kind k 1 1;want k 0 1;");
        Edges.none("want of one", -1, 0, 0, want -> one.want(want, 3));
        Check.tell(x, "kind k 1 1;want k 0 1;");
        Check.due("one of the text before", -1, x.want(1, 0));
    }

    private static void wants(TinNation x, int... due) {
        for (int want = 0; want < due.length; want++) {
            Check.due("want(" + want + ", 3) on DAY " + x.count(4), due[want], x.want(want, 3));
        }
    }

    private static void top() {
        Edges.promise(9, "The TIN that is ON TOP of a STACK; -2: there is none; NONE: no such STACK.");
        TinNation x = Check.nation("kind k 1 1;tin a k 0 2 0;tin b k 0 9 3;tin c k 0 9 3;");
        Check.due("the first STACK", 0, x.top(0));
        Check.due("the last STACK", 2, x.top(3));
        Check.due("a STACK without TINS", -2, x.top(1));
        Check.due("another one", -2, x.top(2));
        Edges.none("top", -1, 0, 3, x::top);
        x.open(2);
        Check.due("the one below an OPEN one", 1, x.top(3));
        x.put(1, 1);
        Check.due("only an OPEN one is left", -2, x.top(3));
        Check.due("where it was put", 1, x.top(1));
        x.go(3);
        Check.due("only a BLOWN one is left", -2, x.top(0));
        Check.due("only an EMPTY one is left", -2, x.top(3));
        TinNation y = Check.nation(eight("9", true));
        for (int tin = 7; tin >= 0; tin--) {
            Check.due("of " + (tin + 1), tin, y.top(0));
            y.open(tin);
        }
        Check.due("of none", -2, y.top(0));
        Edges.none("top without TINS", -1, 0, 3, new TinNation()::top);
    }

    private static void law() {
        Edges.promise(10, "The law's E now (what 0 fresh, 1 glory of a TIN for a WANT, 2 blow; the WANT isn't looked at else).");
        TinNation x = Check.nation("kind k 5 2;tin t k 8 50 0;tin u k 1 60 1;want k 3 9;want k 3 10;law fresh 10+day;law glory worth*100+left;law blow 0-1-dents;");
        Check.due("fresh, though it is beyond 9", 10, x.law(0, 0, 0));
        Check.due("blow, though it is below 0", -9, x.law(2, 0, 0));
        Check.due("blow of the other TIN", -2, x.law(2, 1, 0));
        Check.due("glory for the first WANT", 900, x.law(1, 0, 0));
        Check.due("glory for the second, though it is beyond 999", 1000, x.law(1, 0, 1));
        for (int want : new int[] {-1, 2, 8, Integer.MAX_VALUE, Integer.MIN_VALUE}) {
            Check.due("fresh, WANT " + want, 10, x.law(0, 0, want));
            Check.due("blow, WANT " + want, -9, x.law(2, 0, want));
        }
        x.open(0);
        Check.due("what is left now", 1009, x.law(1, 0, 1));
        x.dent(1);
        Check.due("DENTS now", -3, x.law(2, 1, 0));
        x.go(9);
        Check.due("the DAY now", 19, x.law(0, 0, 0));
        Check.due("nothing is left now", 1000, x.law(1, 0, 1));
        TinNation zero = Check.nation("kind k 5 2;tin t k 8 50 0;law fresh 0;law blow 101;");
        Check.due("fresh 0", 0, zero.law(0, 0, 0));
        Check.due("blow 101", 101, zero.law(2, 0, 0));

        Edges.promise(10, "Long.MIN_VALUE: an ERROR, no such law, no such ones.");
        long no = Long.MIN_VALUE;
        Check.due("glory isn't told", no, zero.law(1, 0, 0));
        Check.due("law 3", no, x.law(3, 0, 0));
        Check.due("law -1", no, x.law(-1, 0, 0));
        Check.due("the greatest law", no, x.law(Integer.MAX_VALUE, 0, 0));
        Check.due("the least law", no, x.law(Integer.MIN_VALUE, 0, 0));
        for (int what = 0; what < 3; what++) {
            for (int tin : new int[] {-1, 2, 8, Integer.MAX_VALUE, Integer.MIN_VALUE}) {
                Check.due("law " + what + " of TIN " + tin, no, x.law(what, tin, 0));
            }
        }
        for (int want : new int[] {-1, 2, 8, Integer.MAX_VALUE, Integer.MIN_VALUE}) {
            Check.due("glory for WANT " + want, no, x.law(1, 0, want));
        }
        TinNation error = Check.nation("kind k 5 2;tin t k 8 50 0;want k 0 1;law fresh 1/day;law glory 1/left;law blow 1/0;");
        Check.due("fresh: by DAY 0", no, error.law(0, 0, 0));
        Check.due("glory: by what is left", no, error.law(1, 0, 0));
        Check.due("blow: by 0", no, error.law(2, 0, 0));
        error.open(0);
        error.go(1);
        Check.due("fresh: by DAY 1", 1, error.law(0, 0, 0));
        Check.due("glory: by 2 left", 0, error.law(1, 0, 0));
        TinNation none = Check.nation("kind k 5 2;tin t k 8 50 0;want k 0 1;");
        for (int what = 0; what < 3; what++) {
            Check.due("no law told, " + what, no, none.law(what, 0, 0));
        }
    }

    private static void above() {
        Edges.passage(3, "ABOVE a TIN that is CLOSED: how many that are CLOSED lie above it in its STACK.");
        TinNation x = Check.nation(eight("99", true));
        for (int tin = 0; tin < 8; tin++) {
            Check.due("above(" + tin + ") of eight", 7 - tin, x.above(tin));
        }
        x.open(7);
        Check.due("without the OPEN one", 6, x.above(0));
        Check.due("the one below it", 0, x.above(6));
        x.put(6, 3);
        Check.due("without the one that was put away", 5, x.above(0));
        Check.due("alone in its STACK", 0, x.above(6));

        Edges.promise(17, "ABOVE; -2: it isn't CLOSED; NONE: no such TIN.");
        Check.due("it is OPEN", -2, x.above(7));
        x.go(3);
        Check.due("it is EMPTY", -2, x.above(7));
        Check.due("it is CLOSED", 0, x.above(5));
        x.go(97);
        Check.due("it is BLOWN", -2, x.above(5));
        Edges.none("above of eight", -1, 0, 7, x::above);
        TinNation one = Check.nation("kind k 1 1;tin t k 0 9 0;");
        Edges.none("above of one", -1, 0, 0, one::above);
        Check.due("of one", 0, one.above(0));
    }

    private static void leastCounts() {
        Edges.promise(38, "0 KINDS, 1 TINS, 2 WANTS, 3 KNOTS, 4 the DAY, 5 CLOSED, 6 OPEN, 7 BLOWN, 8 GLORY, 9 MET, 10 MISSED, 11 REFUSED so far, "
                + "12 keys, 13 NOTES, SIGHTS and STRIKES, 14 by how many it is KNOWN, 15 what can be undone.");
        TinNation x = Check.nation("keys 0;");
        for (int what = 0; what <= 15; what++) {
            Check.due("count(" + what + ") at the least", 0, x.count(what));
        }
        TinNation one = Check.nation("kind k 1 1;tin a k 0 9 0;tin b k 0 1 1;tin c k 0 9 2;tin d k 0 9 3;open a 0;open a 0;want k 0 3;want k 4 1;law fresh 3;keys 1;");
        one.go(2);
        one.note(0, 1, true);
        one.find(1);
        int[] due = {1, 4, 2, 1, 2, 2, 1, 1, 3, 1, 0, 1, 1, 1, 1, 1};
        for (int what = 0; what <= 15; what++) {
            Check.due("count(" + what + ") of few", due[what], one.count(what));
        }
    }

    private static void mostCounts() {
        String kinds = "kind k 1 1;kind b 1 1;kind c 1 1;kind d 1 1;kind e 1 1;kind f 1 1;";
        String text = eight("99", true).replace("kind k 1 1;", kinds) + "open h 0;".repeat(10) + "want k 0 99;".repeat(8)
                + "law glory 999+" + "0+".repeat(30) + "0;law fresh 9;";
        TinNation x = Check.nation(text);
        Check.due("KINDS", 6, x.count(0));
        Check.due("TINS", 8, x.count(1));
        Check.due("WANTS", 8, x.count(2));
        Check.due("KNOTS", 64, x.count(3));
        Check.due("CLOSED", 8, x.count(5));
        for (int tin = 7; tin >= 0; tin--) {
            x.open(tin);
        }
        Check.due("OPEN", 8, x.count(6));
        Check.due("CLOSED none", 0, x.count(5));
        Check.due("to undo", 8, x.count(15));
        x.go(1);
        Check.due("GLORY", 7992, x.count(8));
        Check.due("MET", 8, x.count(9));
        Check.due("REFUSED", 10, x.count(11));
        x.go(8);
        Check.due("EMPTY ones are neither OPEN", 0, x.count(6));
        Check.due("nor BLOWN", 0, x.count(7));
        x.find(9);
        for (int i = 0; i < 8; i++) {
            x.find(9);
        }
        x.find(6);
        Check.due("keys", 99, x.count(12));
        for (int i = 0; i < 25; i++) {
            x.note(0, 1, true);
        }
        Check.due("NOTES", 24, x.count(13));
        Check.due("KNOWN", 24, x.count(14));
        for (int i = 0; i < 12; i++) {
            x.undo();
            x.find(1);
        }
        Check.due("to undo, as it was", 10, x.count(15));
        TinNation blown = Check.nation(eight("1", false) + "want k 0 1;".repeat(8));
        blown.go(2);
        Check.due("BLOWN", 8, blown.count(7));
        Check.due("MISSED", 8, blown.count(10));
        for (int i = 0; i < 21; i++) {
            blown.find(1);
        }
        Check.due("to undo", 20, blown.count(15));
        for (int i = 0; i < 99; i++) {
            blown.go(99);
        }
        Check.due("the DAY", 9803, blown.count(4));
        blown.go(97);
        Check.due("the last DAY", 9900, blown.count(4));
    }

    private static void otherCounts() {
        Edges.promise(38, "NONE for another what.");
        Edges.none("count", -1, 0, 15, new TinNation()::count);
        Edges.none("count of eight", -1, 0, 15, Check.nation(eight("9", true))::count);
    }
}
