/** The edges that the promises 1 to 5 name: a new object, feed, text, fault, named. */
final class EdgeTape {
    private static final int BLANKS = 0x20202020;
    private static final String TOLD = "kind k 5 2;tin t k 0 99 0;tin u k 3 99 0;open u 1;want k 1 7;keys 3;rust 40;seed 1;law fresh 2;";

    private EdgeTape() {
    }

    static void run() {
        newObject();
        feed();
        text();
        textBeginsAnew();
        faultLeavesAll();
        notSoMany();
        fault();
        named();
    }

    private static void newObject() {
        Edges.promise(1, "A TEXT without LINES;");
        TinNation x = new TinNation();
        for (int what = 0; what <= 15; what++) {
            Check.due("count(" + what + ")", what == 12 ? 20 : 0, x.count(what));
        }
        Check.due("tin(0, 0) throws", 1, Check.thrown(x, 0, 0));
        Check.due("kind(0, 0)", -1, x.kind(0, 0));
        Check.due("want(0, 0)", -1, x.want(0, 0));
        Check.due("named(0, a)", -1, x.named(0, Check.letters("a")));
        Check.due("named(1, none)", -1, x.named(1, 0));
        for (int stack = 0; stack < 4; stack++) {
            Check.due("top(" + stack + ")", -2, x.top(stack));
            Check.due("tidy(" + stack + ")", 0, x.tidy(stack));
        }
        Check.due("law(0, 0, 0)", Long.MIN_VALUE, x.law(0, 0, 0));
        Check.due("open(0)", -1, x.open(0));
        Check.due("put(0, 1)", false, x.put(0, 1));
        Check.due("dent(0)", -1, x.dent(0));
        Check.due("above(0)", -1, x.above(0));
        Check.due("best(0, 0)", -1, x.best(0, 0));
        Check.due("order(0)", -2, x.order(0));
        Check.due("order(4)", 0, x.order(4));
        Check.due("rests(0)", -1, x.rests(0));
        Check.due("rest(0, 0)", -1, x.rest(0, 0));
        Check.due("blows(0)", -1, x.blows(0));
        Check.due("dented(0)", -1, x.dented(0));
        Check.due("see(1, 0, true)", -1, x.see(1, 0, true));
        Check.due("strike(0)", -1, x.strike(0));
        Check.due("known(0)", true, x.known(0));
        Check.due("known(1)", false, x.known(1));
        Check.due("which()", 0, x.which());
        Check.due("unmet()", 0, x.unmet());
        Check.due("tried(2, 0, 1)", -1, x.tried(2, 0, 1));
        Check.due("tried(0, 0, 1)", 0, x.tried(0, 0, 1));
        Check.due("chance(0, 1, 0)", 10, x.chance(0, 1, 0));
        Check.due("chance(0, 1, 1)", 0, x.chance(0, 1, 1));
        Check.due("undo()", -1, x.undo());
        Check.due("back()", -1, x.back());
        Check.due("go(99)", 99, x.go(99));
        Check.due("find(1)", 21, x.find(1));

        Edges.promise(1, "an empty TAPE.");
        TinNation y = new TinNation();
        Check.due("text(1)", -2, y.text(1));
        Check.due("text(0)", 0, y.text(0));
        Check.due("feed", 20, y.feed(BLANKS, BLANKS, BLANKS, BLANKS, BLANKS));
    }

    private static void feed() {
        Edges.promise(2, "Twenty bytes come behind the TAPE, four of each number, the highest first: how many it has;");
        TinNation x = new TinNation();
        Check.due("first", 20, x.feed(0x6b657973, 0x20313720, 0x3b727573, 0x74203320, 0x203b7365));
        Check.due("second", 40, x.feed(0x65642038, 0x3b202020, BLANKS, BLANKS, 0x2020200a));
        Check.due("keys 17 ;rust 3 ;seed 8;", 3, x.text(40));
        Check.due("keys", 17, x.count(12));
        Check.due("rust", 97, x.whole(1, 0));
        // each byte of a number by itself, those of a number below 0, too
        for (int i = 0; i < 20; i++) {
            for (int sign : new int[] {0x80, 0xff, 0x7f, 0x00}) {
                int[] words = {BLANKS, BLANKS, BLANKS, BLANKS, BLANKS};
                int shift = 24 - 8 * (i % 4);
                words[i / 4] = words[i / 4] & ~(0xff << shift) | sign << shift;
                x.feed(words[0], words[1], words[2], words[3], words[4]);
                Check.due("byte " + i + " is " + sign, -1, x.text(20));
                Check.due("its place", i, x.fault(1));
            }
        }

        Edges.promise(2, "NONE, and none come, if it would have more than 700.");
        TinNation y = new TinNation();
        String text = "keys 7;" + " ".repeat(685) + "rust 9 ;";
        Check.due("35 times twenty", 700, Check.feed(y, text));
        for (int i = 0; i < 3; i++) {
            Check.due("more than 700", -1, y.feed(0x21212121, 0x21212121, 0x21212121, 0x21212121, 0x21212121));
        }
        Check.due("there are still no more", -2, y.text(701));
        Check.due("what was there stays", 2, y.text(700));
        Check.due("the first byte", 7, y.count(12));
        Check.due("the last byte", 91, y.whole(1, 0));
        Check.due("one that is empty again", 20, y.feed(BLANKS, BLANKS, BLANKS, BLANKS, BLANKS));
        TinNation z = new TinNation();
        Check.due("34 times twenty", 680, Check.feed(z, " ".repeat(680)));
        Check.due("up to 700", 700, z.feed(BLANKS, BLANKS, BLANKS, BLANKS, BLANKS));
        Check.due("behind 700", -1, z.feed(BLANKS, BLANKS, BLANKS, BLANKS, BLANKS));
    }

    private static void text() {
        Edges.promise(3, "The TAPE's first n bytes (it is empty then) are the TEXT");
        String told = "keys 1;rust 9; seed 5;";
        int[] lines = {0, -1, -1, -1, -1, -1, -1, 1, -1, -1, -1, -1, -1, -1, 2, 2, -1, -1, -1, -1, -1, -1, 3, 3};
        int[] places = {-1, 0, 0, 0, 4, 5, 6, -1, 7, 7, 7, 11, 12, 13, -1, -1, 15, 15, 15, 19, 20, 21, -1, -1};
        for (int n = 0; n < lines.length; n++) {
            TinNation x = new TinNation();
            Check.feed(x, told);
            Check.due("text(" + n + ") of <" + told + ">", lines[n], x.text(n));
            Check.due("its place", places[n], x.fault(1));
            Check.due("the TAPE is empty then", -2, x.text(1));
            Check.due("and begins anew", 20, x.feed(BLANKS, BLANKS, BLANKS, BLANKS, BLANKS));
        }
        // what a longer text left on the TAPE is none of a shorter one
        TinNation y = new TinNation();
        Check.tell(y, "keys 1;rust 9;seed 5;keys");
        Check.feed(y, "keys 2;");
        Check.due("behind a longer one", 1, y.text(20));
        Check.due("no rust", 1, y.whole(1, 1));
        Check.due("not so many as of the longer one", -2, y.text(21));

        Edges.promise(3, "how many LINES;");
        Check.due("none", 0, Check.tell(y, " "));
        Check.due("one", 1, Check.tell(y, "keys 2;"));
        StringBuilder all = new StringBuilder();
        for (char name = 'a'; name <= 'f'; name++) {
            all.append("kind ").append(name).append(" 1 1;");
        }
        for (char name = 'a'; name <= 'h'; name++) {
            all.append("tin ").append(name).append(" a 0 9 0;");
        }
        all.append("open a 0;".repeat(10)).append("want a 0 1;".repeat(8)).append("keys 1;rust 1;seed 1;");
        all.append("law fresh 1;law glory 1;law blow 1;");
        Check.due("as many as there may be", 38, Check.tell(y, all.toString()));
    }

    /** A nation of which all has been changed. */
    private static TinNation used() {
        TinNation x = Check.nation(TOLD);
        x.go(4);
        x.dent(0);
        x.put(0, 2);
        x.find(5);
        x.note(0, 5, true);
        x.see(3, 0, false);
        x.strike(0);
        x.known(2);
        x.keep();
        return x;
    }

    private static void textBeginsAnew() {
        Edges.promise(3, "(DAY 0, all CLOSED, GLORY 0, no NOTES, SIGHTS, all KNOWN, no IMAGE, nothing to undo then):");
        TinNation x = used();
        int[] ahead = {1, 2, 1, 1, 4, 1, 0, 0, 7, 1, 0, 0, 7, 3, 2, 3};
        for (int what = 0; what <= 15; what++) {
            Check.due("count(" + what + ") ahead of it", ahead[what], x.count(what));
        }
        Check.due("the same text again", 9, Check.tell(x, TOLD));
        int[] then = {1, 2, 1, 1, 0, 2, 0, 0, 0, 0, 0, 0, 3, 0, 0, 0};
        for (int what = 0; what <= 15; what++) {
            Check.due("count(" + what + ") then", then[what], x.count(what));
        }
        Check.due("no IMAGE", -1, x.back());
        Check.due("nothing to undo", -1, x.undo());
        Check.due("the WANT is to come", 0, x.want(0, 3));
        Check.due("STACKS as told", 1, x.top(0));
        Check.due("the moved one lies below again", 1, x.above(0));
        for (int what = 0; what <= 6; what++) {
            Check.due("tin(1, " + what + ")", new int[] {0, 3, 99, 0, 0, 0, 0}[what], x.tin(1, what));
        }
        x.note(0, 99, true);
        Check.due("KNOWN by all, also those to come", 0, x.which());
        // of the seed told, not from the last number on
        TinNation y = Check.nation(TOLD);
        y.go(5);
        x.go(5);
        Check.due("the same rust", y.tin(0, 1), x.tin(0, 1));
        leavesNothing();
        Check.due("a text without LINES", 0, x.text(0));
        for (int what = 0; what <= 15; what++) {
            Check.due("count(" + what + ") without LINES", what == 12 ? 20 : 0, x.count(what));
        }
    }

    /** Nothing of what was told or had come before is seen in the next text. */
    private static void leavesNothing() {
        String tins = "kind k 1 1;tin a k 0 99 0;tin b k 0 99 1;";
        TinNation x = Check.nation(tins + "open a 0;open a 1;" + "open b 3;".repeat(8) + "want k 0 5;".repeat(8) + "keys 9;seed 1;law fresh 9;law glory " + "1+".repeat(30) + "1;");
        x.go(2);
        x.known(0);
        Check.due("OPEN", 7, x.tin(0, 5));
        Check.due("SERVED", 1, x.tin(0, 6));
        Check.due("MISSED", 7, x.count(10));
        Check.due("REFUSED", 1, x.count(11));
        Check.due("the next text", 7, Check.tell(x, tins + "want k 0 5;rust 1;law glory " + "2+".repeat(30) + "2;law fresh 3;"));
        Check.due("not FRESH", 0, x.tin(0, 5));
        Check.due("nobody SERVED", 0, x.tin(0, 6));
        Check.due("none MISSED", 0, x.count(10));
        Check.due("none REFUSED", 0, x.count(11));
        Check.due("keys", 20, x.count(12));
        Check.due("the first law", 62, x.law(1, 0, 0));
        Check.due("the last law", 3, x.law(0, 0, 0));
        x.note(0, 99, true);
        Check.due("KNOWN by all", 1, x.count(14));
        Check.due("so it is none", 0, x.which());
        x.go(4);
        Check.due("no open is left", 0, x.count(6) + x.count(11));
        Check.due("a first number that is 0, as of the seed 0", 1, x.tin(0, 1));
        Check.due("ten may be told again", 14, Check.tell(x, tins + "open a 0;".repeat(10) + "keys 1;"));
    }

    private static void faultLeavesAll() {
        Edges.promise(3, "NONE with a FAULT, all stays;");
        TinNation x = used();
        TinNation y = used();
        String[] texts = {"kind z 1 1;tin z z 0 9 0;tin y z 0 9 0;tin x z 0 9 0;want z 0 1;keys 0;rust 100;seed 9;law fresh 9;!", ";", "kind", "law glory 1;law blow 100;law fresh 1/0"};
        for (String text : texts) {
            Check.due("a FAULT in <" + text + ">", -1, Check.tell(x, text));
            for (int what = 0; what <= 15; what++) {
                Check.due("count(" + what + ")", y.count(what), x.count(what));
            }
            for (int what = 0; what <= 6; what++) {
                Check.due("tin(0, " + what + ")", y.tin(0, what), x.tin(0, what));
                Check.due("tin(1, " + what + ")", y.tin(1, what), x.tin(1, what));
            }
            Check.due("the law", 2, x.law(0, 0, 0));
            Check.due("no other law", Long.MIN_VALUE, x.law(1, 0, 0));
            Check.due("rust", 3, x.whole(1, 0));
            Check.due("names", 0, x.named(1, Check.letters("t")));
            Check.due("no new names", -1, x.named(0, Check.letters("z")));
        }
        Check.due("what can be undone", 2, x.undo());
        Check.due("the IMAGE", 4, x.back());
        y.undo();
        y.back();
        x.go(9);
        y.go(9);
        Check.due("rust goes on as it would have", y.tin(0, 1), x.tin(0, 1));
    }

    private static void notSoMany() {
        Edges.promise(3, "-2, and the TAPE stays: there are not so many, n is below 0.");
        TinNation x = Check.nation("keys 5;");
        Check.due("one of none", -2, x.text(1));
        Check.due("feed", 20, Check.feed(x, "keys 4;"));
        for (int n : new int[] {21, 22, 40, 700, 701, Integer.MAX_VALUE, -1, -20, Integer.MIN_VALUE}) {
            Check.due("text(" + n + ")", -2, x.text(n));
            Check.due("all stays", 5, x.count(12));
        }
        Check.due("the TAPE stays", 40, Check.feed(x, "rust 50;"));
        Check.due("41 of 40", -2, x.text(41));
        Check.due("40 of 40", 2, x.text(40));
        Check.due("the first twenty", 4, x.count(12));
        Check.due("the last twenty", 2, x.whole(1, 1));
        Check.due("it is empty then", -2, x.text(1));
    }

    private static void fault() {
        Edges.promise(4, "Of the latest text() that was not -2, what 0: its FAULT (0), 1: its place (NONE without).");
        TinNation x = new TinNation();
        faultIs("of a new one", x, 0, -1);
        x.text(1);
        faultIs("behind -2", x, 0, -1);
        Check.tell(x, "!");
        faultIs("at the first byte", x, 1, 0);
        x.text(1);
        faultIs("behind -2 still", x, 1, 0);
        x.text(-1);
        faultIs("behind -2 still", x, 1, 0);
        Check.tell(x, " ".repeat(699) + "!");
        faultIs("at the last byte", x, 1, 699);
        Check.tell(x, " ".repeat(697) + "law");
        faultIs("at the length", x, 1, 700);
        Check.tell(x, "keys 21;");
        faultIs("of the second sort", x, 2, 5);
        Check.tell(x, "keys 1;keys 1;");
        faultIs("of the third sort", x, 3, 7);
        Check.tell(x, "open t 0;");
        faultIs("of the fourth sort", x, 4, 5);
        x.go(1);
        x.keep();
        x.back();
        faultIs("whatever is called since", x, 4, 5);
        Check.tell(x, "keys 1;");
        faultIs("of one without", x, 0, -1);
        Check.tell(x, "!");
        x.text(0);
        faultIs("of none", x, 0, -1);

        Edges.promise(4, "NONE for another what.");
        Edges.none("fault", -1, 0, 1, x::fault);
        Check.tell(x, "keys 21;");
        Edges.none("fault", -1, 0, 1, x::fault);
    }

    private static void faultIs(String when, TinNation x, int fault, int place) {
        Check.due("fault(0) " + when, fault, x.fault(0));
        Check.due("fault(1) " + when, place, x.fault(1));
    }

    private static void named() {
        Edges.promise(5, "The number of a KIND (what 0), a TIN (1) by its letters, 5 bits each (a is 1; the first one highest of six, 0 behind the last one);");
        TinNation x = Check.nation("kind a 1 1;kind z 1 1;kind zzzzzz 1 1;kind aaaaaa 1 1;kind abcdef 1 1;kind az 1 1;"
                + "tin b a 0 9 0;tin a a 0 9 0;tin c a 0 9 0;tin d a 0 9 0;tin e a 0 9 0;tin f a 0 9 0;tin g a 0 9 0;tin zzzzzz a 0 9 0;");
        Check.due("kind a", 0, x.named(0, 1 << 25));
        Check.due("kind z", 1, x.named(0, 26 << 25));
        Check.due("kind zzzzzz", 2, x.named(0, 26 << 25 | 26 << 20 | 26 << 15 | 26 << 10 | 26 << 5 | 26));
        Check.due("kind aaaaaa", 3, x.named(0, 1 << 25 | 1 << 20 | 1 << 15 | 1 << 10 | 1 << 5 | 1));
        Check.due("kind abcdef", 4, x.named(0, 1 << 25 | 2 << 20 | 3 << 15 | 4 << 10 | 5 << 5 | 6));
        Check.due("kind az", 5, x.named(0, 1 << 25 | 26 << 20));
        Check.due("tin a", 1, x.named(1, 1 << 25));
        Check.due("tin b, the first", 0, x.named(1, 2 << 25));
        Check.due("tin zzzzzz, the last", 7, x.named(1, Check.letters("zzzzzz")));

        Edges.promise(5, "NONE: there is none such.");
        Check.due("kind aa", -1, x.named(0, 1 << 25 | 1 << 20));
        Check.due("kind abcdeg", -1, x.named(0, Check.letters("abcdef") + 1));
        Check.due("kind abcdee", -1, x.named(0, Check.letters("abcdef") - 1));
        Check.due("a as the lowest of six", -1, x.named(0, 1));
        Check.due("a with more behind it", -1, x.named(0, 1 << 25 | 1));
        Check.due("a with what is above 30 bits", -1, x.named(0, 1 << 25 | 1 << 30));
        Check.due("a with what is above 31 bits", -1, x.named(0, 1 << 25 | 1 << 31));
        Check.due("no letters", -1, x.named(0, 0));
        Check.due("no letters of a TIN", -1, x.named(1, 0));
        Check.due("letters below 0", -1, x.named(0, -1));
        Check.due("the least number", -1, x.named(1, Integer.MIN_VALUE));
        Check.due("the most", -1, x.named(1, Integer.MAX_VALUE));
        Check.due("a KIND's name asked of TINS", -1, x.named(1, Check.letters("z")));
        Check.due("a TIN's name asked of KINDS", -1, x.named(0, Check.letters("b")));
        Edges.none("named by what", -1, 0, 1, what -> x.named(what, 1 << 25));
        Check.tell(x, "kind b 1 1;");
        Check.due("one of the text before", -1, x.named(0, 1 << 25));
        Check.due("no TINS any more", -1, x.named(1, 1 << 25));
    }
}
