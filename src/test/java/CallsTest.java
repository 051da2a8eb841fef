/** Promises 11 to 14 and 35 to 37: open, put, dent, find, undo, keep, back. */
public final class CallsTest {
    private static final String THREE = "kind k 1 1;tin a k 0 9 0;tin b k 9 9 0;tin c k 0 9 1;";

    public static void main(String[] args) {
        opening();
        stacking();
        denting();
        finding();
        undoing();
        undoingTwenty();
        undoingNoMore();
        images();
        Check.end("CallsTest");
    }

    private static void opening() {
        TinNation x = Check.nation(THREE + "keys 2;law fresh dents-4;");
        Check.due("not ON TOP", -2, x.open(0));
        Check.due("no key is used for it", 2, x.count(12));
        Check.due("by the law", 5, x.open(1));
        Check.due("a key less", 1, x.count(12));
        Check.due("OPEN already", -2, x.open(1));
        Check.due("ON TOP now, FRESH for a DAY at least", 1, x.open(0));
        Check.due("no key", -2, x.open(2));
        Check.due("none of it is REFUSED", 0, x.count(11));
        Check.due("no such tin", -1, x.open(3));
        Check.due("tin below 0", -1, x.open(-1));
        TinNation without = Check.nation(THREE);
        Check.due("without a law", 3, without.open(2));
        TinNation error = Check.nation(THREE + "law fresh 1/0;");
        Check.due("with an ERROR", 3, error.open(2));
        TinNation much = Check.nation(THREE + "law fresh 9999;");
        Check.due("9 at most", 9, much.open(2));
        TinNation left = Check.nation(THREE + "law fresh 4+left+worth;");
        Check.due("nothing is left of one that is just opened", 4, left.open(2));
    }

    private static void stacking() {
        TinNation x = Check.nation(THREE);
        Check.due("not ON TOP", false, x.put(0, 2));
        Check.due("it is that one's", false, x.put(1, 0));
        Check.due("no such stack", false, x.put(1, 4));
        Check.due("stack below 0", false, x.put(1, -1));
        Check.due("no such tin", false, x.put(3, 2));
        Check.due("tin below 0", false, x.put(-1, 2));
        Check.due("nothing to undo of these", 0, x.count(15));
        Check.due("put", true, x.put(1, 1));
        Check.due("its stack", 1, x.tin(1, 3));
        Check.due("on top there", 1, x.top(1));
        Check.due("above the one below", 1, x.above(2));
        Check.due("and the one that it lay on is ON TOP", 0, x.top(0));
        Check.due("put the other one", true, x.put(0, 1));
        Check.due("on top of both", 0, x.top(1));
        Check.due("two above the lowest", 2, x.above(2));
        Check.due("no more in the first", -2, x.top(0));
        Check.due("to an empty stack", true, x.put(0, 0));
        Check.due("and back", true, x.put(0, 1));
        Check.due("open it", 3, x.open(0));
        Check.due("one that is OPEN can't be put", false, x.put(0, 2));
        Check.due("the one below can", true, x.put(1, 2));
        Check.due("stacks go on", 2, x.top(1));
    }

    private static void denting() {
        TinNation x = Check.nation(THREE);
        Check.due("a dent", 1, x.dent(0));
        Check.due("below others, too", 2, x.dent(0));
        Check.due("the tenth", 10, x.dent(1));
        Check.due("not BLOWN before (5)", 0, x.tin(1, 4));
        Check.due("not an eleventh", -1, x.dent(1));
        Check.due("no such tin", -1, x.dent(3));
        Check.due("tin below 0", -1, x.dent(-1));
        x.open(2);
        Check.due("one that is OPEN", -1, x.dent(2));
        x.go(1);
        Check.due("BLOWN in (5)", 3, x.tin(1, 4));
        Check.due("one that is BLOWN", -1, x.dent(1));
        Check.due("no DENTS more", 10, x.tin(1, 1));
    }

    private static void finding() {
        TinNation x = Check.nation("keys 0;");
        Check.due("none", -1, x.find(0));
        Check.due("below 0", -1, x.find(-1));
        Check.due("too many", -1, x.find(10));
        Check.due("one", 1, x.find(1));
        for (int i = 1; i <= 10; i++) {
            Check.due("nine more", 1 + 9 * i, x.find(9));
        }
        Check.due("more than 99", -1, x.find(9));
        Check.due("99", 99, x.find(8));
        Check.due("one more than 99", -1, x.find(1));
        Check.due("still 99", 99, x.count(12));
    }

    private static void undoing() {
        TinNation x = Check.nation(THREE);
        x.dent(1);
        x.put(1, 1);
        x.put(1, 2);
        x.find(7);
        x.open(1);
        x.open(0);
        Check.due("six", 6, x.count(15));
        Check.due("open(0) undone", 5, x.undo());
        Check.due("CLOSED", 0, x.tin(0, 4));
        Check.due("not FRESH", 0, x.tin(0, 5));
        Check.due("a key more", 26, x.count(12));
        Check.due("open(1) undone", 4, x.undo());
        Check.due("ON TOP again", 1, x.top(2));
        Check.due("find undone", 3, x.undo());
        Check.due("keys", 20, x.count(12));
        Check.due("put undone", 2, x.undo());
        Check.due("on top of the second", 1, x.top(1));
        Check.due("put undone", 1, x.undo());
        Check.due("on top of the first", 1, x.top(0));
        Check.due("above the lowest", 1, x.above(0));
        Check.due("second stack", 2, x.top(1));
        Check.due("dent undone", 0, x.undo());
        Check.due("dents", 9, x.tin(1, 1));
        Check.due("nothing left", -1, x.undo());
    }

    private static void undoingTwenty() {
        TinNation x = Check.nation(THREE);
        x.find(3);
        x.dent(0);
        for (int i = 0; i < 20; i++) {
            Check.due("put", true, x.put(2, i % 2 == 0 ? 2 : 3));
        }
        Check.due("20 at most", 20, x.count(15));
        for (int i = 19; i >= 0; i--) {
            Check.due("undo", i, x.undo());
        }
        Check.due("none", -1, x.undo());
        Check.due("the latest 20 are undone", 1, x.tin(2, 3));
        Check.due("the earlier ones are not", 1, x.tin(0, 1));
        Check.due("nor the first one", 23, x.count(12));
    }

    private static void undoingNoMore() {
        TinNation x = Check.nation(THREE);
        x.find(1);
        x.go(0);
        Check.due("no DAY went by", 1, x.count(15));
        x.go(100);
        Check.due("nor then", 1, x.count(15));
        x.keep();
        Check.due("an image leaves it", 1, x.count(15));
        x.ahead(5, 0);
        x.go(1);
        Check.due("a DAY went by", 0, x.count(15));
        Check.due("so nothing can be undone", -1, x.undo());
        x.find(1);
        x.back();
        Check.due("nothing to undo behind back()", -1, x.undo());
        Check.due("keys of the image", 21, x.count(12));
    }

    private static void images() {
        TinNation x = Check.nation(THREE + "want k 0 8;want k 1 9;open c 1;open c 2;rust 50;seed 1;");
        Check.due("none", -1, x.back());
        Check.due("keep on DAY 0", 0, x.keep());
        x.put(1, 3);
        x.open(1);
        x.note(0, 5, true);
        x.known(0);
        Check.due("DAY 3", 3, x.go(3));
        int first = x.tin(0, 1);
        Check.due("REFUSED", 1, x.count(11));
        Check.due("back on DAY 0", 0, x.back());
        int[] due = {1, 3, 2, 0, 0, 3, 0, 0, 0, 0, 0, 0, 20, 1, 0, 0};
        for (int what = 0; what < due.length; what++) {
            Check.due("count(" + what + ") of the image", due[what], x.count(what));
        }
        Check.due("stacks as they were", 1, x.top(0));
        Check.due("SERVED as it was", 0, x.tin(1, 6));
        Check.due("WANTS as they were", 0, x.want(0, 3));
        Check.due("NOTES are none of it", 0, x.strike(0) - 1);
        x.put(1, 3);
        x.open(1);
        x.go(3);
        Check.due("the same numbers again", first, x.tin(0, 1));
        Check.due("back once more", 0, x.back());
        x.go(2);
        Check.due("another image", 2, x.keep());
        x.go(2);
        Check.due("in place of the first", 2, x.back());
    }
}
