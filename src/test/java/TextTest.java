/** Promises 1 to 5: a new object, feed, text, fault, named; and count(3), the KNOTS. */
public final class TextTest {
    private static final String KIND = "kind k 1 1;";
    private static final String TIN = "tin t k 0 1 0;";

    public static void main(String[] args) {
        newObject();
        tape();
        textTakesTheFirstBytes();
        goodTexts();
        wrongTokens();
        tooMuch();
        toldAlready();
        notTold();
        firstAlongTheText();
        faultLeavesAll();
        textBeginsAnew();
        names();
        Check.end("TextTest");
    }

    private static void newObject() {
        TinNation x = new TinNation();
        for (int what = 0; what < 16; what++) {
            Check.due("count(" + what + ") of a new one", what == 12 ? 20 : 0, x.count(what));
        }
        Check.due("fault(0) of a new one", 0, x.fault(0));
        Check.due("fault(1) of a new one", -1, x.fault(1));
        Check.due("fault(2)", -1, x.fault(2));
        Check.due("fault(-1)", -1, x.fault(-1));
        Check.due("text(0) of a new one", 0, x.text(0));
        Check.due("text(1) of a new one", -2, x.text(1));
        Check.due("back() of a new one", -1, x.back());
        Check.due("undo() of a new one", -1, x.undo());
    }

    private static void tape() {
        TinNation x = new TinNation();
        int blanks = 0x20202020;
        for (int i = 1; i <= 35; i++) {
            Check.due("feed " + i, 20 * i, x.feed(blanks, blanks, blanks, blanks, blanks));
        }
        Check.due("feed beyond 700", -1, x.feed(blanks, blanks, blanks, blanks, blanks));
        Check.due("text(701)", -2, x.text(701));
        Check.due("text(-1)", -2, x.text(-1));
        Check.due("text(min)", -2, x.text(Integer.MIN_VALUE));
        Check.due("feed beyond 700 still", -1, x.feed(0, 0, 0, 0, 0));
        Check.due("text(700) of blanks", 0, x.text(700));
        Check.due("feed of an empty tape", 20, x.feed(0, 0, 0, 0, 0));
        // k e y s, ' 5; ', and no byte beyond the fifth number's last one
        Check.due("text with a zero byte", -1, x.text(20));
        Check.due("its place", 0, x.fault(1));
        x.feed(0x6b657973, 0x20202035, 0x20203b0a, 0x72757374, 0x2037373b);
        Check.due("the highest byte comes first", 2, x.text(20));
        Check.due("keys", 5, x.count(12));
        Check.due("rust 77", 23, x.whole(1, 0));
    }

    private static void textTakesTheFirstBytes() {
        TinNation x = new TinNation();
        x.feed(0x6b657973, 0x20313b72, 0x75737420, 0x31303b20, 0x20202020);
        Check.due("keys 1; of more", 1, x.text(7));
        Check.due("the rest of the tape is gone", -2, x.text(1));
        x.feed(0x6b657973, 0x20313b72, 0x75737420, 0x31303b20, 0x20202020);
        Check.due("cut within a LINE", -1, x.text(8));
        Check.due("its fault", 1, x.fault(0));
        Check.due("its place", 7, x.fault(1));
        Check.due("the tape is empty behind a FAULT, too", 20, x.feed(0, 0, 0, 0, 0));
        Check.due("-2 leaves the tape", -2, x.text(21));
        Check.due("-2 leaves the fault", 1, x.fault(0));
        Check.due("so it has more then", 40, x.feed(0, 0, 0, 0, 0));
        cut("law fresh 1<=2;", 12, 1, 12);
        cut("law fresh 1<>2;", 12, 1, 12);
        cut("keys 12345678;", 6, 1, 6);
        cut("kind kindly 1 1;", 8, 1, 8);
        cut("kind kindly 1 1;", 9, 1, 5);
    }

    /** A text of which the first bytes alone are read. */
    private static void cut(String text, int n, int fault, int place) {
        TinNation x = new TinNation();
        Check.tell(x, "!");
        Check.feed(x, text);
        Check.due("the first " + n + " of <" + text + ">", -1, x.text(n));
        Check.due("fault of it", fault, x.fault(0));
        Check.due("place of it", place, x.fault(1));
    }

    private static void goodTexts() {
        Check.good("", 0, 0);
        Check.good("  \n ", 0, 0);
        Check.good(KIND + "\n" + TIN + " ", 2, 0);
        Check.good("kind abcdef 99 9;kind a1 0;", 2, 0);
        Check.good("kind k 0001 09;", 1, 0);
        Check.good(KIND + "tin k k 9 99 3;open k 99;want k 99 99;", 4, 0);
        Check.good("keys 0;rust 0;seed 0;", 3, 0);
        Check.good("keys 20;rust 100;seed 99999;", 3, 0);
        Check.good("law fresh 9999;law glory 0;law blow day;", 3, 3);
        Check.good("law fresh not not 1;", 1, 3);
        Check.good("law fresh not 1<2 and not(3)or 4;", 1, 9);
        Check.good("law fresh 1<=2;law glory 1<>2;law blow 1>=2;", 3, 9);
        Check.good("law fresh((((((((1))))))));", 1, 1);
        Check.good("law fresh (((((((1))))))) + ((((((((1))))))));", 1, 3);
        Check.good("law fresh " + "1+".repeat(31) + "1;", 1, 63);
        Check.good("law fresh not " + "1+".repeat(31) + "1;", 1, 64);
        Check.good("law fresh " + "not ".repeat(63) + "1;", 1, 64);
        Check.good("law fresh " + "1+".repeat(30) + "1;law blow 1+1;", 2, 64);
    }

    private static void wrongTokens() {
        Check.bad(";", 1, 0);
        Check.bad("k", 1, 0);
        Check.bad("1", 1, 0);
        Check.bad("Kind k 1 1;", 1, 0);
        Check.bad("kind", 1, 4);
        Check.bad("kind  ", 1, 6);
        Check.bad("kind k 1 1", 1, 10);
        Check.bad("kind k 1 1 1;", 1, 11);
        Check.bad("kind k 1;", 1, 8);
        Check.bad("kind kind 1 1;", 1, 5);
        Check.bad("kind or 1 1;", 1, 5);
        Check.bad("kind left 1 1;", 1, 5);
        Check.bad("kind blow 1 1;", 1, 5);
        Check.bad("kind 1 1 1;", 1, 5);
        Check.bad("kind abcdefg 1 1;", 1, 5);
        Check.bad(KIND + "\tkeys 1;", 1, 11);
        Check.bad(KIND + "\r", 1, 11);
        Check.bad(KIND + "\u00e9", 1, 11);
        Check.bad("kinds k 1 1;", 1, 0);
        Check.bad("keys -1;", 1, 5);
        Check.bad("keys keys;", 1, 5);
        Check.bad("fresh 1;", 1, 0);
        Check.bad("law;", 1, 3);
        Check.bad("law tin 1;", 1, 4);
        Check.bad("law dents 1;", 1, 4);
        Check.bad("law fresh;", 1, 9);
        Check.bad("law fresh k;", 1, 10);
        Check.bad("law fresh abcdefgh;", 1, 10);
        Check.bad("law fresh 1 2;", 1, 12);
        Check.bad("law fresh 1 99999;", 1, 12);
        Check.bad("law fresh 1<2<3;", 1, 13);
        Check.bad("law fresh 1+not 1;", 1, 12);
        Check.bad("law fresh 1<not 1;", 1, 12);
        Check.bad("law fresh 1< =2;", 1, 13);
        Check.bad("law fresh 1=>2;", 1, 12);
        Check.bad("law fresh 1><2;", 1, 12);
        Check.bad("law fresh 1<>=2;", 1, 13);
        Check.bad("law fresh -1;", 1, 10);
        Check.bad("law fresh 1+;", 1, 12);
        Check.bad("law fresh (1;", 1, 12);
        Check.bad("law fresh 1);", 1, 11);
        Check.bad("law fresh ();", 1, 11);
        Check.bad("law fresh 1!2;", 1, 11);
        Check.bad("law fresh 1 or", 1, 14);
        Check.bad("law fresh and 1;", 1, 10);
    }

    private static void tooMuch() {
        Check.bad("kind k 0 1;", 2, 7);
        Check.bad("kind k 100 1;", 2, 7);
        Check.bad("kind k 99999999999999999999999 1;", 2, 7);
        Check.bad("kind k 4294967297 1;", 2, 7);
        Check.bad("kind k 1 10;", 2, 9);
        Check.bad(KIND + "tin t k 10 1 0;", 2, 19);
        Check.bad(KIND + "tin t k 0 0 0;", 2, 21);
        Check.bad(KIND + "tin t k 0 100 0;", 2, 21);
        Check.bad(KIND + "tin t k 0 1 4;", 2, 23);
        Check.bad(KIND + TIN + "open t 100;", 2, 32);
        Check.bad(KIND + "want k 100 1;", 2, 18);
        Check.bad(KIND + "want k 0 0;", 2, 20);
        Check.bad(KIND + "want k 0 100;", 2, 20);
        Check.bad("keys 21;", 2, 5);
        Check.bad("rust 101;", 2, 5);
        Check.bad("seed 100000;", 2, 5);
        Check.bad("law fresh 10000;", 2, 10);
        Check.bad("law fresh (((((((((1)))))))));", 2, 18);
        Check.bad("law fresh " + "1+".repeat(32) + "1;", 2, 74);
        Check.bad("law fresh " + "1+".repeat(31) + "1 and 1;", 2, 78);
        Check.bad("law fresh " + "not ".repeat(65) + "1;", 2, 266);
        Check.bad("law fresh " + "1+".repeat(30) + "1;law blow 1+1-1;", 2, 84);
        // what can't stand there is the lesser fault of the same place
        Check.bad("law fresh " + "1+".repeat(31) + "1 1;", 1, 74);
        Check.bad("law fresh not " + "1+".repeat(31) + "1 1;", 1, 78);
        Check.bad("law fresh ((((((((1(1))))))));", 1, 19);
        StringBuilder kinds = new StringBuilder();
        StringBuilder tins = new StringBuilder(KIND);
        StringBuilder opens = new StringBuilder(KIND + TIN);
        StringBuilder wants = new StringBuilder(KIND);
        for (int i = 0; i < 10; i++) {
            char name = (char) ('a' + i);
            kinds.append(i < 6 ? "kind " + name + " 1 1;" : "");
            tins.append(i < 8 ? "tin " + name + " k 0 1 0;" : "");
            opens.append("open t 0;");
            wants.append(i < 8 ? "want k 0 1;" : "");
        }
        Check.good(kinds.toString(), 6, 0);
        Check.good(tins.toString(), 9, 0);
        Check.good(opens.toString(), 12, 0);
        Check.good(wants.toString(), 9, 0);
        Check.bad(kinds + "kind rubbish!", 2, kinds.length());
        Check.bad(tins + " tin ;", 2, tins.length() + 1);
        Check.bad(opens + "open x", 2, opens.length());
        Check.bad(wants + "want", 2, wants.length());
    }

    private static void toldAlready() {
        Check.bad(KIND + KIND, 3, 16);
        Check.bad(KIND + TIN + TIN, 3, 29);
        Check.bad("keys 1;keys 1;", 3, 7);
        Check.bad("rust 1;rust", 3, 7);
        Check.bad("seed 1;seed 100000;", 3, 7);
        Check.bad("law fresh 1;law fresh 1;", 3, 16);
        Check.bad("law glory 1;law glory 1;", 3, 16);
        Check.bad("law blow 1;law blow !", 3, 15);
    }

    private static void notTold() {
        Check.bad(TIN, 4, 6);
        Check.bad(KIND + "tin t x 0 1 0;", 4, 17);
        Check.bad("open t 0;", 4, 5);
        Check.bad(KIND + "open k 0;", 4, 16);
        Check.bad("want k 0 1;", 4, 5);
        Check.bad(KIND + TIN + "want t 0 1;", 4, 30);
        Check.bad("open t 0;" + KIND + TIN, 4, 5);
    }

    private static void firstAlongTheText() {
        Check.bad("kind k 100 10;", 2, 7);
        Check.bad("kind k 1 10", 2, 9);
        Check.bad(KIND + TIN + "tin t x 0 1 0;", 3, 29);
        Check.bad(KIND + "tin t x 0 1 9;", 4, 17);
        Check.bad("keys 21 keys", 2, 5);
        Check.bad("law fresh 10000 10000;", 2, 10);
    }

    private static void faultLeavesAll() {
        TinNation x = Check.nation(KIND + TIN + "keys 3;law fresh 2;");
        x.dent(0);
        x.note(0, 1, true);
        x.known(0);
        x.keep();
        Check.due("a text with a FAULT", -1, Check.tell(x, "kind z 1 1;keys 99;"));
        Check.due("kinds stay", 1, x.count(0));
        Check.due("keys stay", 3, x.count(12));
        Check.due("knots stay", 1, x.count(3));
        Check.due("names stay", 0, x.named(0, Check.letters("k")));
        Check.due("no new names", -1, x.named(0, Check.letters("z")));
        Check.due("dents stay", 1, x.tin(0, 1));
        Check.due("notes stay", 1, x.count(13));
        Check.due("known stays", 0, x.count(14));
        Check.due("what can be undone stays", 1, x.count(15));
        Check.due("the image stays", 0, x.back());
        Check.due("fault(0)", 2, x.fault(0));
        Check.due("fault(1)", 16, x.fault(1));
    }

    private static void textBeginsAnew() {
        TinNation x = Check.nation(KIND + TIN + "want k 0 1;open t 1;keys 3;rust 9;law fresh 2;");
        x.open(0);
        x.go(2);
        x.find(1);
        x.note(0, 1, true);
        x.known(0);
        x.keep();
        Check.due("glory of the first", 1, x.count(8));
        Check.due("refused of the first", 1, x.count(11));
        Check.due("lines of the second", 2, Check.tell(x, "kind o 2 3;tin u o 4 5 2;"));
        int[] due = {1, 1, 0, 0, 0, 1, 0, 0, 0, 0, 0, 0, 20, 0, 0, 0};
        for (int what = 0; what < due.length; what++) {
            Check.due("count(" + what + ") of the second", due[what], x.count(what));
        }
        Check.due("back() of the second", -1, x.back());
        Check.due("undo() of the second", -1, x.undo());
        Check.due("rust of the second", 1, x.whole(1, 1));
        Check.due("no law of the second", Long.MIN_VALUE, x.law(0, 0, 0));
        Check.due("old name", -1, x.named(1, Check.letters("t")));
        Check.due("new name", 0, x.named(1, Check.letters("u")));
        x.note(0, 1, true);
        Check.due("all KNOWN of the second", 1, x.count(14));
        Check.due("a text without LINES", 0, x.text(0));
        Check.due("no tins then", 0, x.count(1));
    }

    private static void names() {
        TinNation x = Check.nation("kind pea 1 1;kind a 1 1;kind zzzzzz 1 1;tin b a 0 1 0;tin pea a 0 1 0;");
        int pea = 16 << 25 | 5 << 20 | 1 << 15;
        Check.due("kind pea", 0, x.named(0, pea));
        Check.due("tin pea", 1, x.named(1, pea));
        Check.due("kind a", 1, x.named(0, 1 << 25));
        Check.due("tin a", -1, x.named(1, 1 << 25));
        Check.due("a without its place", -1, x.named(0, 1));
        Check.due("kind zzzzzz", 2, x.named(0, Check.letters("zzzzzz")));
        Check.due("kind pea and more", -1, x.named(0, pea | 1));
        Check.due("kind pea beyond 30 bits", -1, x.named(0, pea | 1 << 30));
        Check.due("no letters", -1, x.named(0, 0));
        Check.due("letters below 0", -1, x.named(0, -1));
        Check.due("another what", -1, x.named(2, pea));
        Check.due("what below 0", -1, x.named(-1, pea));
    }
}
