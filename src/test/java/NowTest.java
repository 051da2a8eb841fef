/** Promises 6 to 10, 17 and 38: tin, kind, want, top, law, above, count. */
public final class NowTest {
    public static void main(String[] args) {
        tins();
        kinds();
        wants();
        stacks();
        laws();
        values();
        counts();
        Check.end("NowTest");
    }

    private static void tins() {
        TinNation x = Check.nation("kind j 7 1;kind k 5 2;tin t k 3 40 2;tin u j 0 9 1;want k 0 5;want k 1 5;want k 1 5;");
        int[] first = {1, 3, 40, 2, 0, 0, 0};
        int[] second = {0, 0, 9, 1, 0, 0, 0};
        for (int what = 0; what < 7; what++) {
            Check.due("tin(0, " + what + ")", first[what], x.tin(0, what));
            Check.due("tin(1, " + what + ")", second[what], x.tin(1, what));
        }
        x.open(0);
        Check.due("OPEN", 1, x.tin(0, 4));
        Check.due("FRESH", 3, x.tin(0, 5));
        x.go(2);
        Check.due("FRESH of two DAYS later", 1, x.tin(0, 5));
        Check.due("one WANT a DAY", 2, x.tin(0, 6));
        x.go(1);
        Check.due("EMPTY", 2, x.tin(0, 4));
        Check.due("FRESH of an EMPTY one", 0, x.tin(0, 5));
        Check.due("SERVED stays", 2, x.tin(0, 6));
        x.go(7);
        Check.due("BLOWN", 3, x.tin(1, 4));
        for (int tin : new int[] {-1, 2, 8, Integer.MAX_VALUE, Integer.MIN_VALUE}) {
            Check.due("no such tin " + tin, 1, Check.thrown(x, tin, 0));
            Check.due("neither such a tin " + tin, 1, Check.thrown(x, tin, 7));
        }
        for (int what : new int[] {-1, 7, Integer.MAX_VALUE, Integer.MIN_VALUE}) {
            Check.due("no such what " + what, 2, Check.thrown(x, 0, what));
        }
        Check.due("a tin of a new one", 1, Check.thrown(new TinNation(), 0, 0));
    }

    private static void kinds() {
        TinNation x = Check.nation("kind j 99 0;kind k 1 9;tin a k 0 9 0;tin b j 0 9 1;tin c k 0 9 2;tin d k 0 5 3;");
        Check.due("weight", 99, x.kind(0, 0));
        Check.due("sound", 0, x.kind(0, 1));
        Check.due("weight", 1, x.kind(1, 0));
        Check.due("sound", 9, x.kind(1, 1));
        Check.due("CLOSED ones", 13, x.kind(1, 2));
        Check.due("OPEN ones", 0, x.kind(1, 3));
        x.open(2);
        Check.due("CLOSED ones then", 9, x.kind(1, 2));
        Check.due("OPEN ones then", 4, x.kind(1, 3));
        Check.due("CLOSED ones of the other", 2, x.kind(0, 2));
        x.go(6);
        Check.due("CLOSED ones without EMPTY, BLOWN", 1, x.kind(1, 2));
        Check.due("OPEN ones without EMPTY, BLOWN", 0, x.kind(1, 3));
        Check.due("no such kind", -1, x.kind(2, 0));
        Check.due("kind below 0", -1, x.kind(-1, 0));
        Check.due("no such what", -1, x.kind(0, 4));
        Check.due("what below 0", -1, x.kind(0, -1));
    }

    private static void wants() {
        TinNation x = Check.nation("kind j 1 1;kind k 1 1;tin a k 0 9 0;want k 0 12;want j 0 13;want k 99 99;");
        int[][] due = {{1, 0, 12, 0}, {0, 0, 13, 0}, {1, 99, 99, 0}};
        for (int want = 0; want < 3; want++) {
            for (int what = 0; what < 4; what++) {
                Check.due("want(" + want + ", " + what + ")", due[want][what], x.want(want, what));
            }
        }
        x.open(0);
        x.go(1);
        Check.due("MET", 1, x.want(0, 3));
        Check.due("MISSED", 2, x.want(1, 3));
        Check.due("to come", 0, x.want(2, 3));
        x.go(99);
        Check.due("MISSED on DAY 99", 2, x.want(2, 3));
        Check.due("no such want", -1, x.want(3, 0));
        Check.due("want below 0", -1, x.want(-1, 0));
        Check.due("no such what", -1, x.want(0, 4));
        Check.due("what below 0", -1, x.want(0, -1));
    }

    private static void stacks() {
        TinNation x = Check.nation("kind k 1 1;tin a k 0 9 0;tin b k 0 9 1;tin c k 0 2 0;tin d k 0 9 0;");
        Check.due("top of three", 3, x.top(0));
        Check.due("top of one", 1, x.top(1));
        Check.due("top of none", -2, x.top(2));
        Check.due("no such stack", -1, x.top(4));
        Check.due("stack below 0", -1, x.top(-1));
        Check.due("above the lowest", 2, x.above(0));
        Check.due("above the middle one", 1, x.above(2));
        Check.due("above the top", 0, x.above(3));
        Check.due("above one alone", 0, x.above(1));
        x.open(3);
        Check.due("above one that isn't CLOSED", -2, x.above(3));
        Check.due("the next is ON TOP", 2, x.top(0));
        Check.due("above without the OPEN one", 1, x.above(0));
        x.go(3);
        Check.due("below a BLOWN one", 0, x.top(0));
        Check.due("above without the BLOWN one", 0, x.above(0));
        Check.due("above a BLOWN one", -2, x.above(2));
        Check.due("no such tin", -1, x.above(4));
        Check.due("tin below 0", -1, x.above(-1));
    }

    private static void laws() {
        TinNation x = Check.nation("kind k 5 2;tin t k 8 50 0;want k 3 9;"
                + "law fresh dents*1000+keeps*1+weight*100/1000;law glory worth*100+left*10+day;law blow 100*worth+sound-day;");
        Check.due("fresh", 8050, x.law(0, 0, 0));
        Check.due("fresh, whatever the WANT", 8050, x.law(0, 0, -77));
        Check.due("glory of one that is CLOSED", 900, x.law(1, 0, 0));
        Check.due("blow has no worth", 2, x.law(2, 0, 0));
        Check.due("fresh 9 at most", 9, x.open(0));
        Check.due("glory has what is left", 990, x.law(1, 0, 0));
        x.go(4);
        Check.due("below 0", -2, x.law(2, 0, 5));
        Check.due("glory on DAY 4", 954, x.law(1, 0, 0));
        x.go(5);
        Check.due("nothing is left of an EMPTY one", 909, x.law(1, 0, 0));
        long no = Long.MIN_VALUE;
        Check.due("no such law", no, x.law(3, 0, 0));
        Check.due("law below 0", no, x.law(-1, 0, 0));
        Check.due("no such tin", no, x.law(0, 1, 0));
        Check.due("tin below 0", no, x.law(0, -1, 0));
        Check.due("no such want", no, x.law(1, 0, 1));
        Check.due("want below 0", no, x.law(1, 0, -1));
        TinNation none = Check.nation("kind k 5 2;tin t k 8 50 0;want k 3 9;law glory 1;");
        Check.due("a law that isn't told", no, none.law(0, 0, 0));
        Check.due("a law that is told", 1, none.law(1, 0, 0));
    }

    private static void value(String e, long due) {
        TinNation x = Check.nation("kind k 5 2;tin t k 8 50 0;law fresh " + e + ";");
        Check.due(e, due, x.law(0, 0, 0));
    }

    private static void values() {
        long error = Long.MIN_VALUE;
        value("7-2-1", 4);
        value("7-2*3", 1);
        value("(7-2)*3", 15);
        value("100/7/2", 7);
        value("7*9/2", 31);
        value("(0-7)/2", -3);
        value("7/(0-2)", -3);
        value("1+2<4", 1);
        value("4<4", 0);
        value("4<=4", 1);
        value("5<=4", 0);
        value("4=4", 1);
        value("4=5", 0);
        value("4<>4", 0);
        value("4<>5", 1);
        value("4>=5", 0);
        value("5>=5", 1);
        value("5>5", 0);
        value("6>5", 1);
        value("not 5", 0);
        value("not 0", 1);
        value("not not 5", 1);
        value("not 1=2", 1);
        value("(not 1)=2", 0);
        value("3 and 4", 1);
        value("3 and 0", 0);
        value("0 or 7", 1);
        value("0 or 0", 0);
        value("1 or 1 and 0", 1);
        value("(1 or 1)and 0", 0);
        value("not 0 and 0", 0);
        value("1/0", error);
        value("0/0", error);
        value("0 and 1/0", error);
        value("1 or 1/0", error);
        value("1000*1000*1000*1000", 1_000_000_000_000L);
        value("1000*1000*1000*1000+1", error);
        value("1000*1000*1000*1000+1-1", error);
        value("0-1000*1000*1000*1000", -1_000_000_000_000L);
        value("0-1000*1000*1000*1000-1", error);
        value("(0-1000*1000)*(1000*1000)", -1_000_000_000_000L);
        value("1000*1000*(0-1000*1000)", -1_000_000_000_000L);
        value("(0-1000*1000)*(1000*1000+1)", error);
        value("(0-1000*1000)*(0-1000*1000)", 1_000_000_000_000L);
        value("0*(1000*1000*1000*1000)", 0);
        // its low 64 bits are 0: a product must not be taken after it has wrapped around
        value("4096*4096*4096*(4096*4096*4096)", error);
        value("(0-1000*1000*1000)*(1000*1000*1000)", error);
        value("9999*9999*9999", 999_700_029_999L);
        value("9999*9999*9999*0", 0);
    }

    private static void counts() {
        TinNation x = Check.nation("kind j 1 1;kind k 1 1;tin a k 0 9 0;tin b k 0 2 1;tin c k 0 9 2;tin d k 0 9 0;"
                + "open a 0;open b 0;open b 1;want k 0 12;want j 0 13;want k 9 9;keys 2;law fresh 5+1;");
        int[] first = {2, 4, 3, 3, 0, 4, 0, 0, 0, 0, 0, 0, 2, 0, 0, 0};
        for (int what = 0; what < 16; what++) {
            Check.due("count(" + what + ") at first", first[what], x.count(what));
        }
        x.go(2);
        x.find(4);
        x.dent(0);
        x.note(0, 5, true);
        x.see(5, 0, true);
        x.strike(0);
        x.known(2);
        int[] then = {2, 4, 3, 3, 2, 3, 1, 0, 12, 1, 1, 2, 5, 3, 2, 2};
        for (int what = 0; what < 16; what++) {
            Check.due("count(" + what + ") then", then[what], x.count(what));
        }
        x.known(-1);
        Check.due("KNOWN by all", 3, x.count(14));
        x.note(1, 5, true);
        Check.due("KNOWN by those that came, too", 4, x.count(14));
        x.go(8);
        Check.due("BLOWN", 3, x.count(7));
        Check.due("EMPTY ones are none of these", 0, x.count(5) + x.count(6));
        Check.due("what 16", -1, x.count(16));
        Check.due("what -1", -1, x.count(-1));
    }
}
