/** The edges that the passage '==== 2.' names: a DAY, step by step, NAMES, VALUES, numbers. */
final class EdgeDays {
    private static final String KIND = "kind k 1 1;";
    private static final long MOST = 1_000_000_000_000L;
    private static final String MILLION = "1000*1000";

    private EdgeDays() {
    }

    static void run() {
        states();
        onTop();
        openings();
        fresh();
        refused();
        serving();
        glory();
        missed();
        goingOff();
        rustByNumbers();
        rustWithoutNumbers();
        rustBounds();
        tenDents();
        blowing();
        names();
        values();
        errors();
        numbers();
        asItGoes();
    }

    private static void states() {
        Edges.passage(2, "A TIN is CLOSED (0), OPEN (1), EMPTY (2) or BLOWN (3).");
        TinNation x = Check.nation(KIND + "tin a k 0 9 0;tin b k 0 1 1;open a 0;open b 3;open a 5;law fresh 2;");
        int[] a = {0, 1, 2, 2, 2, 2, 2};
        int[] b = {0, 0, 3, 3, 3, 3, 3};
        for (int day = 0; day < 7; day++) {
            Check.due("a on DAY " + day, a[day], x.tin(0, 4));
            Check.due("b on DAY " + day, b[day], x.tin(1, 4));
            x.go(1);
        }
        x.go(50);
        Check.due("EMPTY for ever, though its KEEPS is long past", 2, x.tin(0, 4));
        Check.due("BLOWN for ever", 3, x.tin(1, 4));
    }

    private static void onTop() {
        Edges.passage(2, "ON TOP: it is CLOSED and none that is CLOSED lies above it in its STACK.");
        String three = KIND + "tin a k 0 99 0;tin b k 0 99 1;tin c k 0 1 0;law fresh 1;";
        TinNation x = Check.nation(three);
        Check.due("below one that is CLOSED", -2, x.open(0));
        Check.due("alone, whatever is told behind it", 1, x.open(1));
        Check.due("it isn't CLOSED any more", -2, x.open(1));
        Check.due("the top", 1, x.open(2));
        Check.due("below one that is OPEN", 0, x.top(0));
        x.go(1);
        Check.due("below one that is EMPTY", 0, x.top(0));
        Check.due("so it can be opened", 1, x.open(0));
        TinNation y = Check.nation(three);
        y.go(1);
        Check.due("below one that is CLOSED still", 2, y.top(0));
        y.go(1);
        Check.due("below one that is BLOWN", 0, y.top(0));
        TinNation z = Check.nation(three);
        z.put(2, 3);
        Check.due("below one that was put away", 0, z.top(0));
        z.put(0, 1);
        Check.due("on top of one told later", 0, z.top(1));
        Check.due("which isn't ON TOP then", -2, z.open(1));
    }

    private static void openings() {
        Edges.passage(2, "A DAY: (1) open of this DAY, by their numbers: if the TIN is ON TOP and there is a key, it is OPEN, keys are one less,");
        for (int keys = 0; keys <= 3; keys++) {
            TinNation x = Check.nation(KIND + "tin a k 0 99 0;tin b k 0 99 1;open a 2;open b 2;keys " + keys + ";");
            x.go(2);
            Check.due("not ahead of its DAY, keys " + keys, 0, x.count(6));
            x.go(1);
            Check.due("a on its DAY, keys " + keys, Edges.bit(keys >= 1), x.tin(0, 4));
            Check.due("b on its DAY, keys " + keys, Edges.bit(keys >= 2), x.tin(1, 4));
            Check.due("keys left of " + keys, Math.max(0, keys - 2), x.count(12));
            x.find(5);
            x.go(1);
            Check.due("not behind its DAY, keys " + keys, Math.min(2, keys), x.count(6));
        }
        // one below another: it depends on which open comes first
        TinNation first = Check.nation(KIND + "tin a k 0 99 0;tin b k 0 99 0;open b 0;open a 0;");
        first.go(1);
        Check.due("the upper one first", 2, first.count(6));
        TinNation last = Check.nation(KIND + "tin a k 0 99 0;tin b k 0 99 0;open a 0;open b 0;");
        last.go(1);
        Check.due("the lower one first", 1, last.count(6));
    }

    private static void fresh() {
        Edges.passage(2, "it is FRESH for E of fresh DAYS (1 .. 9; 3 without, with an ERROR);");
        freshIs(1, "law fresh 0-9999*9999;");
        freshIs(1, "law fresh 0-1;");
        freshIs(1, "law fresh 0;");
        for (int n = 1; n <= 9; n++) {
            freshIs(n, "law fresh " + n + ";");
        }
        freshIs(9, "law fresh 10;");
        freshIs(9, "law fresh 9999*9999;");
        // what would be 1 or less in 32 bits
        freshIs(9, "law fresh 4096*4096*256;");
        freshIs(9, "law fresh 4096*4096*128;");
        freshIs(1, "law fresh 0-4096*4096*256+5;");
        freshIs(3, "");
        freshIs(3, "law fresh 1/0;");
        freshIs(3, "law fresh " + MILLION + "*" + MILLION + "+1;");
        freshIs(9, "law fresh " + MILLION + "*" + MILLION + ";");
        freshIs(3, "law fresh 0-" + MILLION + "*" + MILLION + "-1;");
        freshIs(1, "law fresh 0-" + MILLION + "*" + MILLION + ";");
    }

    private static void freshIs(int due, String law) {
        TinNation x = Check.nation(KIND + "tin a k 0 99 0;open a 0;" + law);
        TinNation y = Check.nation(KIND + "tin a k 0 99 0;" + law);
        Check.due("open() by <" + law + ">", due, y.open(0));
        for (int day = 1; day <= 10; day++) {
            x.go(1);
            Check.due("FRESH behind " + day + " DAYS by <" + law + ">", Math.max(0, due - day), x.tin(0, 5));
            Check.due("OPEN or EMPTY behind " + day + " DAYS by <" + law + ">", day < due ? 1 : 2, x.tin(0, 4));
        }
    }

    private static void refused() {
        Edges.passage(2, "else it is REFUSED.");
        TinNation x = Check.nation(KIND + "tin a k 0 3 0;tin b k 0 9 1;tin c k 0 9 1;keys 1;"
                + "open b 0;open c 1;open a 2;open c 2;open c 4;open a 4;law fresh 2;");
        int[] due = {0, 1, 1, 3, 3, 5, 5};
        for (int day = 0; day < due.length; day++) {
            Check.due("REFUSED by DAY " + day, due[day], x.count(11));
            x.go(1);
        }
        Check.due("keys", 0, x.count(12));
        TinNation ten = Check.nation(KIND + "tin a k 0 9 0;keys 0;" + "open a 0;".repeat(10));
        ten.go(1);
        Check.due("each of ten", 10, ten.count(11));
        ten.go(9);
        Check.due("and never again", 10, ten.count(11));
    }

    private static void serving() {
        Edges.passage(2, "(2) WANTS of this DAY, by their numbers: the first TIN that is OPEN, of that KIND, and SERVED nobody on this DAY SERVES:");
        String two = "kind j 1 1;" + KIND + "tin a k 0 9 0;tin b j 0 9 1;tin c k 0 9 2;tin d k 0 9 3;law fresh 3;";
        TinNation x = Check.nation(two + "want k 1 1;want k 1 2;want k 1 4;want k 0 8;want k 2 16;");
        x.open(0);
        x.open(1);
        x.open(2);
        x.go(1);
        Check.due("DAY 0: the one WANT of it", 8, x.count(8));
        Check.due("by the first TIN", 1, x.tin(0, 6));
        Check.due("not by another KIND's", 0, x.tin(1, 6));
        Check.due("not by the next", 0, x.tin(2, 6));
        x.go(1);
        Check.due("DAY 1: two of three", 11, x.count(8));
        Check.due("the first WANT", 1, x.want(0, 3));
        Check.due("the second WANT", 1, x.want(1, 3));
        Check.due("the third WANT", 2, x.want(2, 3));
        Check.due("by the first TIN again", 2, x.tin(0, 6));
        Check.due("and the next", 1, x.tin(2, 6));
        Check.due("not by one that is CLOSED", 0, x.tin(3, 6));
        x.go(1);
        Check.due("DAY 2: the one WANT of it", 27, x.count(8));
        Check.due("by the first TIN, on its last DAY", 3, x.tin(0, 6));
        TinNation y = Check.nation(two + "want k 0 1;want j 0 2;want k 0 4;open a 0;open b 0;open c 0;");
        y.go(1);
        Check.due("what is opened on this DAY SERVES on it", 7, y.count(8));
        TinNation z = Check.nation(two + "want k 3 1;open a 0;open c 1;");
        z.go(4);
        Check.due("what is EMPTY doesn't", 0, z.tin(0, 6));
        Check.due("the first that is OPEN does", 1, z.tin(2, 6));
    }

    private static void glory() {
        Edges.passage(2, "GLORY is more by E of glory (0 .. 999; WORTH without, with an ERROR), it is MET;");
        gloryIs(0, "law glory 0-9999*9999;");
        gloryIs(0, "law glory 0-1;");
        gloryIs(0, "law glory 0;");
        gloryIs(1, "law glory 1;");
        gloryIs(998, "law glory 998;");
        gloryIs(999, "law glory 999;");
        gloryIs(999, "law glory 1000;");
        gloryIs(999, "law glory 9999*9999*9999;");
        gloryIs(999, "law glory 4096*4096*256;");
        gloryIs(0, "law glory 0-4096*4096*256+5;");
        gloryIs(77, "");
        gloryIs(77, "law glory 5/0;");
        gloryIs(77, "law glory " + MILLION + "*" + MILLION + "+1;");
        gloryIs(999, "law glory " + MILLION + "*" + MILLION + ";");
        gloryIs(77, "law glory 0-" + MILLION + "*" + MILLION + "-1;");
        gloryIs(0, "law glory 0-" + MILLION + "*" + MILLION + ";");
    }

    private static void gloryIs(int due, String law) {
        TinNation x = Check.nation(KIND + "tin a k 0 9 0;want k 0 77;want k 1 77;" + law);
        x.open(0);
        x.go(1);
        Check.due("GLORY by <" + law + ">", due, x.count(8));
        Check.due("MET by <" + law + ">", 1, x.count(9));
        Check.due("the WANT by <" + law + ">", 1, x.want(0, 3));
        x.go(1);
        Check.due("GLORY of two by <" + law + ">", 2 * due, x.count(8));
    }

    private static void missed() {
        Edges.passage(2, "else MISSED.");
        TinNation x = Check.nation(KIND + "tin a k 0 9 0;want k 0 7;want k 1 7;want k 2 7;open a 1;law fresh 1;");
        int[] due = {0, 1, 1, 2, 2};
        for (int day = 0; day < due.length; day++) {
            Check.due("MISSED by DAY " + day, due[day], x.count(10));
            Check.due("MET by DAY " + day, Edges.bit(day >= 2), x.count(9));
            x.go(1);
        }
        Check.due("no GLORY for it", 7, x.count(8));
    }

    private static void goingOff() {
        Edges.passage(2, "(3) by numbers each TIN that is OPEN: FRESH is 1 less; at 0 it is EMPTY.");
        TinNation x = Check.nation(KIND + "tin a k 1 99 0;tin b k 2 99 1;tin c k 3 99 2;tin d k 9 99 3;law fresh dents;");
        for (int tin = 0; tin < 4; tin++) {
            x.open(tin);
        }
        int[] fresh = {1, 2, 3, 9};
        for (int day = 0; day <= 10; day++) {
            for (int tin = 0; tin < 4; tin++) {
                Check.due("FRESH of " + tin + " on DAY " + day, Math.max(0, fresh[tin] - day), x.tin(tin, 5));
                Check.due("state of " + tin + " on DAY " + day, day < fresh[tin] ? 1 : 2, x.tin(tin, 4));
            }
            x.go(1);
        }
    }

    /** Of the seed 1, modulo 100, the first numbers are 38 58 13 15. */
    private static void rustByNumbers() {
        Edges.passage(2, "(4) by numbers each TIN that is CLOSED: a number modulo 100");
        TinNation x = Check.nation(KIND + "tin a k 0 99 0;tin b k 0 99 0;seed 1;rust 39;");
        x.go(1);
        Check.due("38 is the first one's", 1, x.tin(0, 1));
        Check.due("58 is the second one's", 0, x.tin(1, 1));
        x.go(1);
        Check.due("13 is the first one's", 2, x.tin(0, 1));
        Check.due("15 is the second one's", 1, x.tin(1, 1));
        TinNation open = Check.nation(KIND + "tin a k 0 99 0;tin b k 0 99 1;tin c k 0 1 2;seed 1;rust 39;");
        open.open(0);
        open.go(1);
        Check.due("one that is OPEN has none", 0, open.tin(0, 1));
        Check.due("so 38 is the second one's", 1, open.tin(1, 1));
        Check.due("and 58 the third one's", 0, open.tin(2, 1));
        open.go(1);
        Check.due("13 is the second one's", 2, open.tin(1, 1));
        Check.due("15 the third one's, which is BLOWN behind it", 1, open.tin(2, 1));
        open.go(1);
        Check.due("51 is the second one's", 2, open.tin(1, 1));
        Check.due("one that is BLOWN has none", 1, open.tin(2, 1));
        open.go(1);
        Check.due("so 27 is the second one's, though the first is EMPTY", 3, open.tin(1, 1));
        for (int rust = 37; rust <= 39; rust++) {
            TinNation y = Check.nation(KIND + "tin a k 0 99 0;seed 1;rust " + rust + ";");
            y.go(1);
            Check.due("38 below " + rust, Edges.bit(38 < rust), y.tin(0, 1));
        }
    }

    private static void rustWithoutNumbers() {
        Edges.passage(2, "(no number, if E is 0 or 100)");
        // the first TIN's E as given, the second's 40: 38 is below it, 58 isn't
        String[] laws = {"0-1", "0", "1", "99", "100", "101", "9999*9999", "0-9999"};
        boolean[] takes = {false, false, true, true, false, false, false, false};
        for (int i = 0; i < laws.length; i++) {
            TinNation x = Check.nation(KIND + "tin a k 0 50 0;tin b k 0 60 0;seed 1;rust 7;law blow (keeps=50)*(" + laws[i] + ")+(keeps=60)*40;");
            x.go(1);
            Check.due("the next one's number, if E is " + laws[i], Edges.bit(!takes[i]), x.tin(1, 1));
        }
        for (int rust : new int[] {0, 1, 99, 100}) {
            TinNation x = Check.nation(KIND + "tin a k 0 50 0;tin b k 0 60 0;seed 1;rust " + rust + ";law blow (keeps=60)*40+(keeps=50)/(keeps-50);");
            x.go(1);
            Check.due("the next one's number, if rust is " + rust, Edges.bit(rust % 100 == 0), x.tin(1, 1));
        }
        TinNation never = Check.nation(KIND + "tin a k 0 99 0;rust 0;");
        never.go(50);
        Check.due("of rust 0 none rusts", 0, never.tin(0, 1));
        TinNation always = Check.nation(KIND + "tin a k 0 99 0;rust 100;");
        always.go(9);
        Check.due("of rust 100 each does on each DAY", 9, always.tin(0, 1));
    }

    private static void rustBounds() {
        Edges.passage(2, "below E of blow (0 .. 100; rust without, with an ERROR):");
        rustIs(0, "law blow 0-1;");
        rustIs(0, "law blow 0;");
        rustIs(38, "law blow 38;");
        rustIs(39, "law blow 39;");
        rustIs(100, "law blow 100;");
        rustIs(100, "law blow 101;");
        rustIs(100, "law blow 4096*4096*256;");
        rustIs(0, "law blow 0-4096*4096*256+60;");
        for (String law : new String[] {"", "law blow 1/0;", "law blow " + MILLION + "*" + MILLION + "+1;", "law blow 0-1-" + MILLION + "*" + MILLION + ";"}) {
            for (int rust : new int[] {0, 38, 39, 100}) {
                rustIs(rust, "rust " + rust + ";" + law);
            }
        }
        rustIs(100, "rust 0;law blow " + MILLION + "*" + MILLION + ";");
        rustIs(0, "rust 100;law blow 0-" + MILLION + "*" + MILLION + ";");
    }

    /** Whether 38 is below the odds due. */
    private static void rustIs(int due, String text) {
        TinNation x = Check.nation(KIND + "tin a k 0 99 0;seed 1;" + text);
        x.go(1);
        Check.due("DENTS by <" + text + ">", Edges.bit(38 < due), x.tin(0, 1));
    }

    private static void tenDents() {
        Edges.passage(2, "DENTS are 1 more, 10 at most.");
        TinNation x = Check.nation(KIND + "tin a k 8 99 0;tin b k 9 99 1;tin c k 9 99 2;rust 100;");
        x.dent(2);
        x.go(1);
        Check.due("8 and 1", 9, x.tin(0, 1));
        Check.due("9 and 1", 10, x.tin(1, 1));
        Check.due("10 and no more", 10, x.tin(2, 1));
        x.go(1);
        Check.due("9 and 1", 10, x.tin(0, 1));
        x.go(9);
        Check.due("10 for ever", 10, x.tin(0, 1));
        Check.due("10 for ever", 10, x.tin(1, 1));
    }

    private static void blowing() {
        Edges.passage(2, "(5) TINS that are CLOSED and whose KEEPS is this DAY or an earlier one, or that have more than 9 DENTS, are BLOWN.");
        for (int keeps : new int[] {1, 2, 98, 99}) {
            TinNation x = Check.nation(KIND + "tin a k 0 " + keeps + " 0;");
            x.go(keeps - 1);
            Check.due("ahead of DAY " + keeps, 0, x.tin(0, 4));
            x.go(1);
            Check.due("on DAY " + keeps, 0, x.tin(0, 4));
            x.go(1);
            Check.due("behind DAY " + keeps, 3, x.tin(0, 4));
        }
        TinNation x = Check.nation(KIND + "tin a k 8 99 0;tin b k 9 99 1;tin c k 7 99 2;");
        x.dent(0);
        x.dent(1);
        x.dent(2);
        x.go(1);
        Check.due("9 DENTS", 0, x.tin(0, 4));
        Check.due("10 DENTS", 3, x.tin(1, 4));
        Check.due("8 DENTS", 0, x.tin(2, 4));
        TinNation rust = Check.nation(KIND + "tin a k 8 99 0;rust 100;");
        rust.go(1);
        Check.due("9 by rust", 0, rust.tin(0, 4));
        rust.go(1);
        Check.due("10 by rust, on the same DAY", 3, rust.tin(0, 4));
        TinNation open = Check.nation(KIND + "tin a k 0 1 0;tin b k 0 1 1;open a 1;law fresh 9;");
        open.open(1);
        open.go(2);
        Check.due("one that is opened on the DAY that it keeps to", 1, open.tin(0, 4));
        Check.due("one that is OPEN on it", 1, open.tin(1, 4));
        open.go(20);
        Check.due("EMPTY, not BLOWN", 0, open.count(7));

        Edges.passage(2, "Then it is the next DAY.");
        TinNation day = Check.nation(KIND + "tin a k 0 99 0;tin b k 0 99 1;want k 1 5;law fresh day;law glory day+1;law blow (day=2)*100;");
        day.open(0);
        day.go(1);
        Check.due("DAY 1", 1, day.count(4));
        day.open(1);
        Check.due("FRESH by DAY 1", 1, day.tin(1, 5));
        day.go(1);
        Check.due("GLORY by DAY 1", 2, day.count(8));
        Check.due("DAY 2", 2, day.count(4));
    }

    private static void names() {
        Edges.passage(2, "NAMES, of the TIN (of glory the one that SERVES): dents: DENTS; keeps: KEEPS; weight, sound: WEIGHT, SOUND of its KIND;");
        String tins = "kind j 99 0;kind k 1 9;tin a j 0 99 0;tin b k 9 1 1;want j 1 1;want k 0 99;";
        nameIs("dents", tins, 0, 9);
        nameIs("keeps", tins, 99, 1);
        nameIs("weight", tins, 99, 1);
        nameIs("sound", tins, 0, 9);
        TinNation x = Check.nation(tins + "law glory dents*100+sound;");
        x.dent(1);
        Check.due("DENTS now", 1009, x.law(1, 1, 0));
        TinNation y = Check.nation("kind k 1 1;tin a k 3 99 0;tin b k 5 99 1;want k 0 1;want k 0 1;law glory dents*dents;");
        y.open(1);
        y.open(0);
        y.go(1);
        Check.due("of the one that SERVES, 9 and 25", 34, y.count(8));

        Edges.passage(2, "worth: WORTH of the WANT (of fresh, blow 0);");
        TinNation worth = Check.nation(tins + "law glory worth;law fresh worth+4;law blow worth;");
        Check.due("the first WANT's", 1, worth.law(1, 0, 0));
        Check.due("the second WANT's", 99, worth.law(1, 0, 1));
        Check.due("of fresh", 4, worth.law(0, 0, 1));
        Check.due("of fresh when it is opened", 4, worth.open(0));
        Check.due("of blow", 0, worth.law(2, 0, 1));

        Edges.passage(2, "left: for how many DAYS it is FRESH (0, if it isn't OPEN);");
        TinNation left = Check.nation("kind k 1 1;tin a k 0 99 0;tin b k 0 2 1;want k 0 1;want k 1 1;want k 2 1;law fresh left*5+2;law glory 10*left+1;law blow left;");
        Check.due("CLOSED", 1, left.law(1, 0, 0));
        Check.due("as it is opened", 2, left.open(0));
        Check.due("OPEN, fresh", 12, left.law(0, 0, 0));
        Check.due("OPEN, glory", 21, left.law(1, 0, 0));
        Check.due("OPEN, blow", 2, left.law(2, 0, 0));
        left.go(1);
        Check.due("GLORY on the first DAY", 21, left.count(8));
        Check.due("a DAY later", 11, left.law(1, 0, 0));
        left.go(1);
        Check.due("GLORY on the last DAY", 32, left.count(8));
        Check.due("EMPTY", 1, left.law(1, 0, 0));
        left.go(1);
        Check.due("BLOWN", 1, left.law(1, 1, 0));

        Edges.passage(2, "day: the DAY.");
        TinNation day = Check.nation("kind k 1 1;tin a k 0 99 0;law fresh day;");
        Check.due("the first DAY", 0, day.law(0, 0, 0));
        day.go(1);
        Check.due("the next DAY", 1, day.law(0, 0, 0));
        for (int i = 0; i < 99; i++) {
            day.go(99);
        }
        Check.due("DAY 9802", 9802, day.law(0, 0, 0));
        day.go(98);
        Check.due("the last DAY", 9900, day.law(0, 0, 0));
    }

    private static void nameIs(String name, String tins, int first, int second) {
        TinNation x = Check.nation(tins + "law fresh " + name + ";law glory " + name + ";law blow " + name + ";");
        for (int what = 0; what < 3; what++) {
            Check.due(name + " of the first, law " + what, first, x.law(what, 0, 0));
            Check.due(name + " of the second, law " + what, second, x.law(what, 1, 1));
        }
    }

    private static void valueIs(long due, String e) {
        TinNation x = Check.nation("kind k 5 2;tin t k 8 50 0;law fresh " + e + ";");
        Check.due("<" + e + ">", due, x.law(0, 0, 0));
    }

    private static void values() {
        Edges.passage(2, "VALUES are longs;");
        valueIs(99980001, "9999*9999");
        valueIs(999700029999L, "9999*9999*9999");
        valueIs(4294967296L, "4096*4096*256");
        valueIs(-4294967296L, "0-4096*4096*256");
        valueIs(2147483648L, "4096*4096*128");
        valueIs(-2147483649L, "0-4096*4096*128-1");
        valueIs(1, "4096*4096*256>0");
        valueIs(0, "4096*4096*256=0");

        Edges.passage(2, "comparisons, and, or, not are 1 or 0 (what isn't 0 is as 1, both sides are worked out),");
        String[] signs = {"<", "<=", "=", "<>", ">=", ">"};
        int[][] due = {{1, 0, 0}, {1, 1, 0}, {0, 1, 0}, {1, 0, 1}, {0, 1, 1}, {0, 0, 1}};
        for (int i = 0; i < signs.length; i++) {
            for (int left = 4; left <= 6; left++) {
                valueIs(due[i][left - 4], left + signs[i] + "5");
                valueIs(due[i][left - 4], "(0-" + (10 - left) + ")" + signs[i] + "(0-5)");
            }
        }
        String[] sides = {"0", "1", "2", "9999", "(0-1)", "(4096*4096*256)"};
        for (int i = 0; i < sides.length; i++) {
            valueIs(Edges.bit(i == 0), "not " + sides[i]);
            valueIs(Edges.bit(i != 0), "not not " + sides[i]);
            for (int k = 0; k < sides.length; k++) {
                valueIs(Edges.bit(i != 0 && k != 0), sides[i] + " and " + sides[k]);
                valueIs(Edges.bit(i != 0 || k != 0), sides[i] + " or " + sides[k]);
            }
        }
        valueIs(Long.MIN_VALUE, "0 and 1/0");
        valueIs(Long.MIN_VALUE, "1 or 1/0");
        valueIs(Long.MIN_VALUE, "1/0 and 0");
        valueIs(Long.MIN_VALUE, "1/0 or 1");
        valueIs(Long.MIN_VALUE, "not(1/0)");
        valueIs(Long.MIN_VALUE, "0*(1/0)");
        valueIs(Long.MIN_VALUE, "1/0=1/0");

        Edges.passage(2, "/ is cut towards 0;");
        int[] thirds = {2, 2, 1, 1, 1, 0, 0, 0, 0, 0, -1, -1, -1, -2, -2};
        for (int i = 7; i >= -7; i--) {
            String number = i >= 0 ? String.valueOf(i) : "(0-" + -i + ")";
            valueIs(thirds[7 - i], number + "/3");
            valueIs(-thirds[7 - i], number + "/(0-3)");
        }
        valueIs(0, "1/2");
        valueIs(0, "(0-1)/2");
        valueIs(-1, "(0-2)/2");
        valueIs(-1, "(0-3)/2");
        valueIs(0, "0/5");
        valueIs(-MOST, "0-" + MILLION + "*" + MILLION + "/1");
        valueIs(MOST, "(0-" + MILLION + "*" + MILLION + ")/(0-1)");
    }

    private static void errors() {
        long error = Long.MIN_VALUE;
        Edges.passage(2, "ERROR: / by 0,");
        valueIs(1, "1/1");
        valueIs(-1, "1/(0-1)");
        valueIs(error, "1/0");
        valueIs(error, "0/0");
        valueIs(error, "1/(1-1)");
        valueIs(error, "1/(0-0)");
        valueIs(error, "1/(1/2)");
        valueIs(error, "1/(not 1)");
        valueIs(error, "1/day");

        Edges.passage(2, "a value above 10 to the 12 or below 0 by more than that.");
        String most = MILLION + "*" + MILLION;
        valueIs(MOST - 1, most + "-1");
        valueIs(MOST, most);
        valueIs(error, most + "+1");
        valueIs(error, most + "+1-1");
        valueIs(error, "1+" + most);
        valueIs(MOST, "1-1+" + most);
        valueIs(-MOST + 1, "1-" + most);
        valueIs(-MOST, "0-" + most);
        valueIs(error, "0-1-" + most);
        valueIs(error, "0-" + most + "-1+1");
        valueIs(error, most + "-(0-1)");
        valueIs(-MOST, "(0-" + MILLION + ")*(" + MILLION + ")");
        valueIs(-MOST, "(" + MILLION + ")*(0-" + MILLION + ")");
        valueIs(MOST, "(0-" + MILLION + ")*(0-" + MILLION + ")");
        valueIs(error, "(" + MILLION + "+1)*(" + MILLION + ")");
        valueIs(error, "(0-" + MILLION + ")*(" + MILLION + "+1)");
        valueIs(error, "(" + MILLION + ")*(0-" + MILLION + "-1)");
        valueIs(error, "(0-" + MILLION + "-1)*(0-" + MILLION + ")");
        valueIs(MOST - 1, "(" + MILLION + "+1)*(" + MILLION + "-1)");
        valueIs(MOST, "(" + most + ")*1");
        valueIs(-MOST, "(0-1)*(" + most + ")");
        valueIs(0, "(" + most + ")*0");
        valueIs(0, "0*(" + most + ")");
        valueIs(error, "(" + most + ")*2");
        valueIs(error, "2*(0-" + most + ")");
        valueIs(error, "(" + most + ")*(" + most + ")");
        // these would be small again, if they went round in 64 bits
        valueIs(error, "4096*4096*4096*(4096*4096*4096)");
        valueIs(error, "(4096*4096*4096+1)*(4096*4096*4096)");
        valueIs(error, "(0-4096*4096*4096)*(4096*4096*4096)");
        valueIs(error, "not(" + most + "+1)");
        valueIs(1, "(" + most + ")=" + most);
        valueIs(1, "(0-" + most + ")<" + most);
    }

    private static void numbers() {
        Edges.passage(2, "Numbers are the last one (at first the seed) times 1103515245 and 12345, without what is above 31 bits, by 65536.");
        int[] known = {16838, 5758, 10113, 17515, 31051, 5627, 23010, 7419, 16212, 4086};
        int[] worked = Edges.numbers(1, 10);
        for (int i = 0; i < 10; i++) {
            Check.due("number " + i + " of the seed 1", known[i], worked[i]);
        }
        for (int seed : new int[] {0, 1, 2, 12345, 65535, 65536, 99998, 99999}) {
            for (int rust : new int[] {1, 10, 50, 90, 99}) {
                rusting(seed, rust);
            }
        }
    }

    /** Three TINS, DAY by DAY, beside numbers worked out by big ones. */
    private static void rusting(int seed, int rust) {
        TinNation x = Check.nation(KIND + "tin a k 0 99 0;tin b k 0 99 0;tin c k 0 99 0;seed " + seed + ";rust " + rust + ";");
        int[] numbers = Edges.numbers(seed, 120);
        int[] dents = new int[3];
        int at = 0;
        for (int day = 0; day < 40; day++) {
            x.go(1);
            for (int tin = 0; tin < 3; tin++) {
                if (dents[tin] < 10) {
                    dents[tin] += Edges.bit(numbers[at] % 100 < rust);
                    at++;
                }
                Check.due("DENTS of " + tin + " behind DAY " + day + ", seed " + seed + ", rust " + rust, dents[tin], x.tin(tin, 1));
                Check.due("BLOWN of " + tin + " behind DAY " + day + ", seed " + seed + ", rust " + rust, dents[tin] == 10 ? 3 : 0, x.tin(tin, 4));
            }
        }
    }

    private static void asItGoes() {
        Edges.passage(2, "AS IT GOES: without numbers: a TIN rusts, if E of blow is 50 at least.");
        for (int odds : new int[] {0, 1, 49, 50, 51, 99, 100}) {
            String[] texts = {"rust " + odds + ";", "law blow " + odds + ";", "rust " + odds + ";law blow 1/0;", "rust " + (100 - odds) + ";law blow " + odds + ";"};
            for (String text : texts) {
                for (int seed = 0; seed < 3; seed++) {
                    TinNation x = Check.nation(KIND + "tin a k 8 99 0;seed " + seed + ";" + text);
                    Check.due("one DAY by <" + text + ">", 0, x.ahead(1, 3));
                    Check.due("two DAYS by <" + text + ">", Edges.bit(odds >= 50), x.ahead(2, 3));
                    Check.due("blows by <" + text + ">", odds >= 50 ? 2 : -2, x.blows(0));
                }
            }
        }
        askedBehind();
        TinNation beyond = Check.nation(KIND + "tin a k 9 99 0;tin b k 9 98 0;law blow (keeps-98)*9999-(keeps=98)*5;");
        Check.due("what is beyond 100, and below 0", 1, beyond.ahead(1, 3));
    }

    /** Questions as it goes, and DAYS by numbers, whatever was asked or done by numbers or otherwise before. */
    private static void askedBehind() {
        // GLORY in 9 DAYS is another one in each way of TRIED, and by numbers
        String text = "kind j 2 2;" + KIND + "tin a k 9 99 0;tin b j 9 98 1;tin c k 0 99 2;tin d k 0 99 2;keys 2;law fresh 1;"
                + "law blow (keeps=99)*40+(keeps=98)*60;open a 1;open b 1;open c 3;open d 5;open c 6;"
                + "want k 1 1;want j 1 2;want k 3 4;want k 5 16;want k 6 32;want k 8 8;";
        int[] due = {17, 3, 48, 5, 49, 61};
        for (int what = 0; what <= 5; what++) {
            Check.due("tried(" + what + ", 0, 9)", due[what], Check.nation(text).tried(what, 0, 9));
        }
        for (int call = 0; call <= 7; call++) {
            for (int question = 0; question <= 17; question++) {
                TinNation x = Check.nation(text);
                TinNation y = Check.nation(text);
                x.see(2, 0, false);
                y.see(2, 0, false);
                disturb(x, call);
                Check.due("question " + question + " behind call " + call, answer(y, question), answer(x, question));
            }
            TinNation x = Check.nation(text);
            TinNation y = Check.nation(text);
            disturb(x, call);
            x.go(9);
            y.go(9);
            for (int what = 0; what <= 12; what++) {
                Check.due("count(" + what + ") nine DAYS behind call " + call, y.count(what), x.count(what));
            }
            Check.due("by numbers a was BLOWN", 3, x.tin(0, 4));
        }
    }

    private static void disturb(TinNation x, int call) {
        if (call <= 5) {
            x.tried(call, 0, 9);
        } else if (call == 6) {
            x.chance(0, 9, 0);
        } else {
            x.keep();
            x.go(4);
            x.back();
        }
    }

    private static int answer(TinNation x, int question) {
        if (question <= 4) {
            return x.ahead(9, question);
        }
        if (question <= 9) {
            return x.order(question - 5);
        }
        if (question <= 11) {
            return x.best(2, question - 10);
        }
        if (question <= 15) {
            return x.blows(question - 12);
        }
        return question == 16 ? x.dented(0) : x.tried(0, 0, 9);
    }
}
