import java.lang.management.ManagementFactory;

/** No call of the face makes an object or an array, whatever it is asked (but for tin()'s exceptions). */
public final class RoomTest {
    private static final int TIMES = 200;

    public static void main(String[] args) {
        com.sun.management.ThreadMXBean threads = (com.sun.management.ThreadMXBean) ManagementFactory.getThreadMXBean();
        long thread = Thread.currentThread().getId();
        String text = "kind k 1 1;tin a k 0 9 0;tin b k 0 19 0;tin c k 7 90 1;tin d k 7 90 2;open a 1;open b 0;want k 1 20;"
                + "want k 9 20;rust 40;seed 1;law fresh 2+(day<3)*dents;law blow not(dents>5)*40;";
        int[] words = Check.words(text);
        TinNation x = new TinNation();
        calls(x, words, text.length(), TIMES);
        long before = threads.getThreadAllocatedBytes(thread);
        long after = threads.getThreadAllocatedBytes(thread);
        long own = after - before;
        before = threads.getThreadAllocatedBytes(thread);
        calls(x, words, text.length(), TIMES);
        after = threads.getThreadAllocatedBytes(thread);
        // the machine itself may take a little for its own compiling
        Check.due("bytes made by " + TIMES + " rounds: " + (after - before - own), true, after - before - own < TIMES * 16L);
        Check.end("RoomTest");
    }

    private static void calls(TinNation x, int[] words, int length, int times) {
        for (int i = 0; i < times; i++) {
            for (int at = 0; at < words.length; at += 5) {
                x.feed(words[at], words[at + 1], words[at + 2], words[at + 3], words[at + 4]);
            }
            x.text(length);
            x.fault(0);
            x.named(1, 1 << 25);
            x.kind(0, 2);
            x.want(0, 3);
            x.top(0);
            x.law(2, 0, 0);
            x.put(2, 2);
            x.dent(0);
            x.find(3);
            x.open(1);
            x.tin(1, 5);
            x.rests(1);
            x.rest(1, 2);
            x.keep();
            x.ahead(99, 0);
            x.above(0);
            x.order(4);
            x.best(0, 1);
            x.tidy(0);
            x.whole(6, 0);
            x.unmet();
            x.blows(0);
            for (int note = 0; note < 12; note++) {
                x.note(0, note, true);
                x.see(note + 40, 2, true);
            }
            x.strike(0);
            x.known(-1);
            x.which();
            x.ask(0);
            x.dented(2);
            x.chance(5, 99, 2);
            x.tried(2, 1, 99);
            x.undo();
            x.go(20);
            x.back();
            x.count(5);
            x.feed(words[0], words[1], words[2], words[3], words[4]);
            x.text(19);
        }
    }
}
