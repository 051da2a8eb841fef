/** Promise 15: what goes by on a DAY, and how far it can go. */
public final class DaysTest {
    public static void main(String[] args) {
        howFar();
        openings();
        serving();
        glory();
        goingOff();
        rust();
        rustByLaw();
        whatIsSureTakesNoNumber();
        blowing();
        Check.end("DaysTest");
    }

    private static void howFar() {
        TinNation x = new TinNation();
        Check.due("none", 0, x.go(0));
        Check.due("below 0", -1, x.go(-1));
        Check.due("too many", -1, x.go(100));
        for (int i = 1; i <= 99; i++) {
            Check.due("99 more", 99 * i, x.go(99));
        }
        Check.due("9801 and 98", 9899, x.go(98));
        Check.due("behind 9900", -1, x.go(2));
        Check.due("none went by", 9899, x.count(4));
        Check.due("up to 9900", 9900, x.go(1));
        Check.due("none of 9900", 9900, x.go(0));
        Check.due("one of 9900", -1, x.go(1));
        Check.due("ahead goes on", 0, x.ahead(99, 0));
    }

    private static void openings() {
        TinNation x = Check.nation("kind k 1 1;tin a k 0 9 0;tin b k 0 9 0;tin c k 0 9 1;tin d k 0 9 2;"
                + "open a 0;open b 0;open a 0;open a 0;open c 1;open d 1;keys 3;");
        x.go(1);
        Check.due("a is opened behind b", 1, x.tin(0, 4));
        Check.due("b", 1, x.tin(1, 4));
        Check.due("keys", 1, x.count(12));
        Check.due("REFUSED below another, and once OPEN", 2, x.count(11));
        Check.due("three DAYS without a law, one went by", 2, x.tin(0, 5));
        x.go(1);
        Check.due("c by the last key", 1, x.tin(2, 4));
        Check.due("d without a key", 0, x.tin(3, 4));
        Check.due("REFUSED", 3, x.count(11));
        Check.due("no keys", 0, x.count(12));
        x.go(50);
        Check.due("each but once", 3, x.count(11));
    }

    private static void serving() {
        TinNation x = Check.nation("kind j 1 1;kind k 1 1;tin a k 0 9 0;tin b j 0 9 1;tin c k 0 9 2;"
                + "want k 0 10;want j 0 20;want k 0 40;want k 0 80;want k 1 1;want j 1 2;");
        x.open(0);
        x.open(2);
        x.go(1);
        Check.due("the first one, by number", 1, x.tin(0, 6));
        Check.due("none of the other KIND is OPEN", 2, x.want(1, 3));
        Check.due("the next one for the next WANT", 1, x.tin(2, 6));
        Check.due("both have SERVED", 2, x.want(3, 3));
        Check.due("GLORY", 50, x.count(8));
        Check.due("MET", 2, x.count(9));
        Check.due("MISSED", 2, x.count(10));
        x.go(1);
        Check.due("again on the next DAY, the first one", 2, x.tin(0, 6));
        Check.due("not the second one", 1, x.tin(2, 6));
        Check.due("GLORY then", 51, x.count(8));
    }

    private static void gloryIs(String law, int due) {
        TinNation x = Check.nation("kind k 5 7;tin a k 3 9 0;want k 1 10;" + law);
        x.open(0);
        x.go(2);
        Check.due("GLORY by <" + law + ">", due, x.count(8));
    }

    private static void glory() {
        gloryIs("", 10);
        gloryIs("law glory worth+left*100+dents;", 213);
        gloryIs("law glory keeps+weight+sound+day*100;", 121);
        gloryIs("law glory 0-5;", 0);
        gloryIs("law glory 0;", 0);
        gloryIs("law glory 999;", 999);
        gloryIs("law glory 5000;", 999);
        gloryIs("law glory 1/(left-2);", 10);
        gloryIs("law glory 9999*9999*9999*9999;", 10);
    }

    private static void goingOff() {
        TinNation x = Check.nation("kind k 1 1;tin a k 0 9 0;tin b k 0 9 1;open a 2;want k 2 7;want k 3 9;law fresh 1;rust 100;");
        x.open(1);
        x.go(1);
        Check.due("EMPTY behind its DAY", 2, x.tin(1, 4));
        Check.due("what is OPEN doesn't rust", 0, x.tin(1, 1));
        Check.due("what is CLOSED does", 1, x.tin(0, 1));
        x.go(2);
        Check.due("it SERVES on its last DAY", 1, x.want(0, 3));
        Check.due("and is EMPTY then", 2, x.tin(0, 4));
        Check.due("so it doesn't rust on that one", 2, x.tin(0, 1));
        x.go(10);
        Check.due("nor SERVES on a later one", 2, x.want(1, 3));
        Check.due("what is EMPTY isn't BLOWN", 0, x.count(7));
    }

    /** Of the seed 1, modulo 100, the numbers are 38 58 13 15 51 27 10 19 12 86. */
    private static void rust() {
        TinNation x = Check.nation("kind k 1 1;tin a k 0 99 0;tin b k 0 99 0;rust 40;seed 1;");
        int[] a = {1, 2, 2, 3, 4};
        int[] b = {0, 1, 2, 3, 3};
        for (int day = 0; day < 5; day++) {
            x.go(1);
            Check.due("DENTS of a behind DAY " + day, a[day], x.tin(0, 1));
            Check.due("DENTS of b behind DAY " + day, b[day], x.tin(1, 1));
        }
        TinNation y = Check.nation("kind k 1 1;tin a k 0 99 0;tin b k 0 99 1;rust 40;seed 1;");
        y.open(0);
        y.go(5);
        Check.due("only what is CLOSED takes a number", 3, y.tin(1, 1));
        TinNation not = Check.nation("kind k 1 1;tin a k 0 99 0;rust 38;seed 1;");
        not.go(1);
        Check.due("38 isn't below 38", 0, not.tin(0, 1));
        TinNation is = Check.nation("kind k 1 1;tin a k 0 99 0;rust 39;seed 1;");
        is.go(1);
        Check.due("38 is below 39", 1, is.tin(0, 1));
        TinNation zero = Check.nation("kind k 1 1;tin a k 0 99 0;rust 1;");
        zero.go(1);
        Check.due("without a seed the first number is 0", 1, zero.tin(0, 1));
    }

    private static void rustByLaw() {
        String two = "kind k 1 1;tin a k 0 50 0;tin b k 0 60 0;seed 1;";
        TinNation error = Check.nation(two + "rust 40;law blow 1/0;");
        error.go(5);
        Check.due("with an ERROR as told", 4, error.tin(0, 1));
        Check.due("with an ERROR as told", 3, error.tin(1, 1));
        TinNation law = Check.nation(two + "rust 100;law blow (keeps=60)*40+(keeps=50)*14;");
        law.go(5);
        Check.due("by the law: 38 13 51 10 12 below 14", 3, law.tin(0, 1));
        Check.due("by the law: 58 15 27 19 86 below 40", 3, law.tin(1, 1));
        TinNation dents = Check.nation("kind k 1 1;tin a k 6 90 0;law blow (dents>6)*100;");
        dents.go(3);
        Check.due("of no more DENTS than 6", 6, dents.tin(0, 1));
        dents.dent(0);
        dents.go(1);
        Check.due("of more", 8, dents.tin(0, 1));
    }

    private static void whatIsSureTakesNoNumber() {
        for (String sure : new String[] {"100", "150", "0", "0-7"}) {
            TinNation x = Check.nation("kind k 1 1;tin a k 0 50 0;tin b k 0 60 0;seed 1;law blow (keeps=50)*("
                    + sure + ")+(keeps=60)*40;");
            x.go(2);
            Check.due("of E " + sure, sure.startsWith("1") ? 2 : 0, x.tin(0, 1));
            Check.due("38, 58 are the other one's, if E is " + sure, 1, x.tin(1, 1));
        }
        TinNation y = Check.nation("kind k 1 1;tin a k 0 50 0;tin b k 0 60 0;seed 1;law blow (keeps=50)*99+(keeps=60)*40;");
        y.go(2);
        Check.due("58, 15, if E is 99", 1, y.tin(1, 1));
        y.go(1);
        Check.due("58, 15, 27, if E is 99", 2, y.tin(1, 1));
    }

    private static void blowing() {
        TinNation x = Check.nation("kind k 1 1;tin a k 0 4 0;tin b k 0 2 0;tin c k 9 90 1;tin d k 8 90 1;"
                + "open b 2;open a 3;open a 4;rust 100;");
        Check.due("d is ON TOP", 3, x.top(1));
        x.go(1);
        Check.due("BLOWN by the tenth DENT", 3, x.tin(2, 4));
        Check.due("DENTS of it", 10, x.tin(2, 1));
        Check.due("no DENTS more", 9, x.tin(3, 1));
        x.go(1);
        Check.due("BLOWN one DAY later", 3, x.tin(3, 4));
        Check.due("DENTS of a BLOWN one stay", 10, x.tin(2, 1));
        Check.due("not BLOWN ahead of its DAY", 0, x.tin(1, 4));
        x.go(1);
        Check.due("opened on the DAY it keeps to", 1, x.tin(1, 4));
        x.go(2);
        Check.due("a is opened below it", 1, x.tin(0, 4));
        Check.due("and once REFUSED", 1, x.count(11));
        TinNation y = Check.nation("kind k 1 1;tin a k 0 9 0;tin b k 0 1 0;open a 1;open a 2;");
        y.go(2);
        Check.due("BLOWN on the DAY it keeps to", 3, y.tin(1, 4));
        Check.due("till then the one below is REFUSED", 0, y.tin(0, 4));
        y.go(1);
        Check.due("and is opened then", 1, y.tin(0, 4));
        TinNation ten = Check.nation("kind k 1 1;tin a k 9 99 0;rust 100;");
        ten.dent(0);
        ten.go(1);
        Check.due("10 at most", 10, ten.tin(0, 1));
    }
}
