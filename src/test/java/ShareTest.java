/** Promises 21 to 23: rests, rest, whole. */
public final class ShareTest {
    public static void main(String[] args) {
        rests(1, 1, 10, 11, 12, 13, 21, 22, 23, 31, 32, 33);
        rests(2, 2, 11, 20, 22, 23, 32, 33);
        rests(3, 3, 12, 21, 30, 33);
        rests(4, 4, 13, 22, 31, 40);
        rests(5, 14, 23, 32, 41);
        rests(6, 24, 33, 42);
        rests(7, 33, 34, 43);
        rests(8, 33, 34, 43, 44);
        rests(9, 33, 34, 43, 44);
        noRests();
        whole();
        Check.end("ShareTest");
    }

    /** Of one that is FRESH for so many DAYS. */
    private static void rests(int fresh, int... due) {
        TinNation x = Check.nation("kind k 1 1;tin a k 0 9 0;law fresh " + fresh + ";");
        Check.due("CLOSED", -1, x.rests(0));
        Check.due("CLOSED", -1, x.rest(0, 0));
        x.open(0);
        Check.due("rests of " + fresh, due.length, x.rests(0));
        for (int k = 0; k < due.length; k++) {
            Check.due("rest " + k + " of " + fresh, due[k], x.rest(0, k));
        }
        Check.due("no so many of " + fresh, -2, x.rest(0, due.length));
        Check.due("no so many of " + fresh, -2, x.rest(0, Integer.MAX_VALUE));
        Check.due("k below 0", -1, x.rest(0, -1));
        if (fresh == 3) {
            x.go(1);
            Check.due("rests of what is left", 7, x.rests(0));
            x.go(2);
            Check.due("EMPTY", -1, x.rests(0));
        }
    }

    private static void noRests() {
        TinNation x = Check.nation("kind k 1 1;tin a k 0 9 0;");
        x.open(0);
        Check.due("no such tin", -1, x.rests(1));
        Check.due("tin below 0", -1, x.rests(-1));
        Check.due("no such tin", -1, x.rest(1, 0));
        Check.due("tin below 0", -1, x.rest(-1, 0));
    }

    private static void wholeIs(int rust, int n, long above, long below) {
        TinNation x = Check.nation("rust " + rust + ";");
        Check.due("above of rust " + rust + " for " + n, above, x.whole(n, 0));
        Check.due("below of rust " + rust + " for " + n, below, x.whole(n, 1));
    }

    private static void whole() {
        wholeIs(0, 0, 1, 1);
        wholeIs(0, 6, 1, 1);
        wholeIs(100, 0, 1, 1);
        wholeIs(100, 1, 0, 1);
        wholeIs(100, 6, 0, 1);
        wholeIs(50, 6, 1, 64);
        wholeIs(40, 2, 9, 25);
        wholeIs(1, 6, 941_480_149_401L, 1_000_000_000_000L);
        wholeIs(99, 6, 1, 1_000_000_000_000L);
        wholeIs(36, 3, 4096, 15625);
        TinNation x = Check.nation("rust 50;law blow 0;");
        Check.due("by rust told, not by the law", 2, x.whole(1, 1));
        Check.due("n 7", -1, x.whole(7, 0));
        Check.due("n below 0", -1, x.whole(-1, 0));
        Check.due("what 2", -1, x.whole(1, 2));
        Check.due("what below 0", -1, x.whole(1, -1));
    }
}
