/** The edges that the document's Terms name: texts, names, numbers, how many of each, FAULTS. */
final class EdgeText {
    private static final String KIND = "kind k 1 1;";
    private static final String TIN = KIND + "tin t k 0 9 0;";
    private static final String[] LANGUAGE = {"kind", "tin", "open", "want", "keys", "rust", "seed", "law", "fresh", "glory",
        "blow", "dents", "keeps", "weight", "sound", "worth", "left", "day", "not", "and", "or"};
    private static final String[] COMPARISONS = {"<", "<=", "=", "<>", ">=", ">"};

    private EdgeText() {
    }

    static void run() {
        lines();
        words();
        blanks();
        expressions();
        signsOfTwo();
        kinds();
        tins();
        openings();
        wants();
        numbersOfTheirOwn();
        numbered();
        firstFault();
        tokens();
        tooMuch();
        knots();
        toldAlready();
        notToldAhead();
    }

    private static void lines() {
        Edges.terms("A TEXT: { LINE ';' }.");
        Edges.stands("");
        Edges.stands("keys 1;");
        Edges.stands("keys 1;rust 1;");
        Edges.fault(1, "^;");
        Edges.fault(1, "keys 1;^;");
        Edges.fault(1, "keys 1^");
        Edges.fault(1, "keys 1;rust 1^");
        Edges.fault(1, "keys 1 ^rust 1;");

        Edges.terms("LINE: kind W N N | tin W W N N N | open W N | want W N N | keys N | rust N | seed N | law RULE E.");
        oneTooFewOrTooMany("", "kind", "k", "1", "1");
        oneTooFewOrTooMany(KIND, "tin", "t", "k", "0", "9", "0");
        oneTooFewOrTooMany(TIN, "open", "t", "0");
        oneTooFewOrTooMany(KIND, "want", "k", "0", "1");
        oneTooFewOrTooMany("", "keys", "1");
        oneTooFewOrTooMany("", "rust", "1");
        oneTooFewOrTooMany("", "seed", "1");
        oneTooFewOrTooMany("", "law", "fresh", "1");
        for (int i = 8; i < LANGUAGE.length; i++) {
            Edges.fault(1, "^" + LANGUAGE[i] + " 1;");
        }
        Edges.fault(1, "^k 1 1;");
        Edges.fault(1, "kind ^1 k 1;");
        Edges.fault(1, KIND + "tin ^0 t k 9 0;");
        Edges.fault(1, TIN + "open ^0 t;");
        Edges.fault(1, KIND + "want k ^k 0;");
        Edges.fault(1, "keys ^k;");

        Edges.terms("RULE: fresh | glory | blow.");
        for (String word : LANGUAGE) {
            if (word.equals("fresh") || word.equals("glory") || word.equals("blow")) {
                Edges.stands("law " + word + " 1;");
            } else {
                Edges.fault(1, "law ^" + word + " 1;");
            }
        }
        Edges.fault(1, "law ^k 1;");
        Edges.fault(1, "law ^1;");
        Edges.fault(1, "law ^;");
    }

    /** A LINE cut behind each of its parts, with ';' and without, and with one part more. */
    private static void oneTooFewOrTooMany(String ahead, String... parts) {
        StringBuilder line = new StringBuilder(ahead);
        for (int i = 0; i < parts.length; i++) {
            if (i > 0) {
                Edges.fault(1, line + "^;");
                Edges.fault(1, line + "^");
            }
            line.append(parts[i]).append(' ');
        }
        Edges.fault(1, line + "^");
        Edges.fault(1, line + "^1;");
        Edges.fault(1, line + "^k;");
        Edges.stands(line + ";");
    }

    private static void words() {
        Edges.terms("Words: small letters in a row; W: one of 1 .. 6 letters, none of those of the language;");
        for (String name : new String[] {"a", "z", "az", "abcde", "zzzzzz", "kin", "kindl", "kinds", "nd", "ors", "o", "laws"}) {
            Edges.stands("kind " + name + " 1 1;tin " + name + " " + name + " 0 9 0;open " + name + " 0;want " + name + " 0 1;");
        }
        Edges.fault(1, "kind ^1 1;");
        Edges.fault(1, "kind ^abcdefg 1 1;");
        Edges.fault(1, KIND + "tin ^abcdefg k 0 9 0;");
        Edges.fault(1, KIND + "tin t ^abcdefg 0 9 0;");
        Edges.fault(1, TIN + "open ^abcdefg 0;");
        Edges.fault(1, KIND + "want ^abcdefg 0 1;");
        Edges.fault(1, "kind ^" + "a".repeat(200) + " 1 1;");
        for (String word : LANGUAGE) {
            Edges.fault(1, "kind ^" + word + " 1 1;");
            Edges.fault(1, KIND + "tin ^" + word + " k 0 9 0;");
            Edges.fault(1, KIND + "tin t ^" + word + " 0 9 0;");
            Edges.fault(1, TIN + "open ^" + word + " 0;");
            Edges.fault(1, KIND + "want ^" + word + " 0 1;");
        }
        // the signs just beside the letters, and the great letters
        for (char sign : new char[] {'a' - 1, 'z' + 1, 'A', 'Z', '@', '[', '_', (char) 225, (char) 250}) {
            Edges.fault(1, "kind ^" + sign + " 1 1;");
            Edges.fault(1, "kind a^" + sign + " 1 1;");
        }

        Edges.terms("N: digits.");
        Edges.stands("kind k 10 9;");
        Edges.stands("kind k10 09;");
        Edges.stands("seed " + "0".repeat(300) + "99999;");
        for (char sign : new char[] {'0' - 1, '9' + 1, 'x', '.', '-', '+', (char) 176, (char) 185}) {
            Edges.fault(1, "keys ^" + sign + "1;");
            Edges.fault(1, "keys 1^" + sign + ";");
        }
    }

    private static void blanks() {
        Edges.terms("Blanks 10, 32.");
        for (int sign = 0; sign < 256; sign++) {
            if (sign == 10 || sign == 32) {
                Edges.stands("" + (char) sign);
                Edges.stands((char) sign + "keys" + (char) sign + (char) sign + "1" + (char) sign + ";" + (char) sign);
                Edges.fault(1, "keys 1" + (char) sign + "^1;");
                Edges.fault(1, "^ke" + (char) sign + "ys 1;");
            } else {
                Edges.fault(1, "^" + (char) sign);
                Edges.fault(1, "keys 1;" + "^" + (char) sign);
            }
        }
        Edges.stands("kind k1 1;tin t k 0 9 0;open t0;want k0 1;keys1;rust1;seed1;law fresh1+dents;");
    }

    private static void expressions() {
        Edges.terms("E: A { or A }.");
        joins("or");
        Edges.terms("A: B { and B }.");
        joins("and");

        Edges.terms("B: not B | C.");
        Check.good("law fresh not 1;", 1, 2);
        Check.good("law fresh not not 1;", 1, 3);
        Check.good("law fresh not 1 and not 1 or not 1;", 1, 8);
        Check.good("law fresh(not 1)+1;", 1, 4);
        Edges.fault(1, "law fresh not^;");
        Edges.fault(1, "law fresh 1 ^not 1;");
        Edges.fault(1, "law fresh 1+^not 1;");
        Edges.fault(1, "law fresh 1*^not 1;");
        Edges.fault(1, "law fresh 1=^not 1;");

        Edges.terms("C: S [ ( < | <= | = | <> | >= | > ) S ].");
        for (String sign : COMPARISONS) {
            Check.good("law fresh 1" + sign + "1;", 1, 3);
            Check.good("law fresh 1 " + sign + " 1 and 1" + sign + "1;", 1, 7);
            Check.good("law fresh(1" + sign + "1)" + sign + "1;", 1, 5);
            Edges.fault(1, "law fresh ^" + sign + "1;");
            Edges.fault(1, "law fresh 1" + sign + "^;");
            for (String other : COMPARISONS) {
                Edges.fault(1, "law fresh 1" + sign + "1^" + other + "1;");
                Edges.fault(1, "law fresh 1" + sign + " ^" + other + "1;");
            }
        }

        Edges.terms("S: T { ( + | - ) T }.");
        joins("+");
        joins("-");
        Edges.terms("T: P { ( * | / ) P }.");
        joins("*");
        joins("/");

        Edges.terms("P: N | NAME | '(' E ')'; N of E 0 .. 9999.");
        Edges.range("law fresh ", 0, 9999, ";");
        Edges.range("law glory 1+(", 0, 9999, ")*2;");
        Check.good("law fresh (1);", 1, 1);
        Check.good("law fresh ((1 or 1));", 1, 3);
        Edges.fault(1, "law fresh (^);");
        Edges.fault(1, "law fresh (1^;");
        Edges.fault(1, "law fresh 1^);");
        Edges.fault(1, "law fresh 1^(1);");
        Edges.fault(1, "law fresh (1)^(1);");
        Edges.fault(1, "law fresh^;");
        Edges.fault(1, "law fresh^");

        Edges.terms("NAME: dents keeps weight sound worth left day.");
        for (int i = 0; i < LANGUAGE.length; i++) {
            if (i >= 11 && i <= 17) {
                Check.good("law fresh " + LANGUAGE[i] + ";", 1, 1);
                Edges.fault(1, "law fresh 1 ^" + LANGUAGE[i] + ";");
            } else if (!LANGUAGE[i].equals("not")) {
                Edges.fault(1, "law fresh ^" + LANGUAGE[i] + " 1;");
            }
        }
        Edges.fault(1, "law fresh ^k;");
        Edges.fault(1, KIND + "law fresh ^k;");
        Edges.fault(1, "law fresh ^dent;");
        Edges.fault(1, "law fresh ^weights;");
    }

    /** None, one, many of a sign that joins two; it stands neither ahead of the first, nor behind the last, nor twice. */
    private static void joins(String sign) {
        Check.good("law fresh 1;", 1, 1);
        Check.good("law fresh 1 " + sign + " 1;", 1, 3);
        Check.good("law fresh 1 " + sign + " 1 " + sign + " 1;", 1, 5);
        Edges.fault(1, "law fresh ^" + sign + " 1;");
        Edges.fault(1, "law fresh 1 " + sign + "^;");
        Edges.fault(1, "law fresh 1 " + sign + "^");
        Edges.fault(1, "law fresh 1 " + sign + " ^" + sign + " 1;");
        Edges.fault(1, "law fresh (1 " + sign + " ^);");
    }

    private static void signsOfTwo() {
        Edges.terms("A = (or > behind <) right behind < or > belongs to it.");
        Check.good("law fresh 1<=1;", 1, 3);
        Check.good("law fresh 1>=1;", 1, 3);
        Check.good("law fresh 1<>1;", 1, 3);
        Edges.fault(1, "law fresh 1< ^=1;");
        Edges.fault(1, "law fresh 1>\n^=1;");
        Edges.fault(1, "law fresh 1< ^>1;");
        Edges.fault(1, "law fresh 1>^>1;");
        Edges.fault(1, "law fresh 1>^<1;");
        Edges.fault(1, "law fresh 1<^<1;");
        Edges.fault(1, "law fresh 1=^<1;");
        Edges.fault(1, "law fresh 1=^>1;");
        Edges.fault(1, "law fresh 1=^=1;");
        Edges.fault(1, "law fresh 1<=^=1;");
        Edges.fault(1, "law fresh 1<>^=1;");
        Edges.fault(1, "law fresh 1<>^>1;");
        Edges.fault(1, "law fresh ^<=1;");
        // at the very end of the text
        Edges.fault(1, "law fresh 1<^");
        Edges.fault(1, "law fresh 1<=^");
        Edges.fault(1, "law fresh 1<>^");
        // the sign behind the text's end is none of it
        TinNation x = new TinNation();
        Check.feed(x, "law fresh 1<=1;");
        Check.due("cut between < and =", -1, x.text(12));
        Check.due("its place", 12, x.fault(1));
    }

    private static void kinds() {
        Edges.terms("KINDS, at most 6: WEIGHT 1 .. 99, SOUND 0 .. 9.");
        Edges.most(6, "", "kind", new String[] {" a 1 1;", " b 1 1;", " c 1 1;", " d 1 1;", " e 1 1;", " f 1 1;", " g 1 1;"});
        Edges.range("kind k ", 1, 99, " 1;");
        Edges.range("kind k 1 ", 0, 9, ";");
    }

    private static void tins() {
        Edges.terms("TINS, at most 8: a KIND, DENTS 0 .. 9, KEEPS 1 .. 99 (a DAY), a STACK 0 .. 3;");
        String[] rests = new String[9];
        for (int i = 0; i < 9; i++) {
            rests[i] = " " + (char) ('a' + i) + " k 0 9 " + i % 4 + ";";
        }
        Edges.most(8, KIND, "tin", rests);
        Edges.range(KIND + "tin t k ", 0, 9, " 9 0;");
        Edges.range(KIND + "tin t k 0 ", 1, 99, " 0;");
        Edges.range(KIND + "tin t k 0 9 ", 0, 3, ";");

        Edges.terms("each one is on top of those of its STACK that were told ahead.");
        TinNation x = Check.nation(KIND + "tin a k 0 9 0;tin b k 0 9 3;tin c k 0 9 0;tin d k 0 9 3;tin e k 0 9 0;");
        int[] above = {2, 1, 1, 0, 0};
        for (int tin = 0; tin < 5; tin++) {
            Check.due("above(" + tin + ")", above[tin], x.above(tin));
        }
        Check.due("the last told of STACK 0", 4, x.top(0));
        Check.due("the last told of STACK 3", 3, x.top(3));
        Check.due("none of STACK 1", -2, x.top(1));
    }

    private static void openings() {
        Edges.terms("open, at most 10: a TIN on a DAY 0 .. 99.");
        String[] rests = new String[11];
        java.util.Arrays.fill(rests, " t 0;");
        Edges.most(10, TIN, "open", rests);
        Edges.range(TIN + "open t ", 0, 99, ";");
        TinNation x = Check.nation(KIND + "tin a k 0 99 0;tin b k 0 99 1;open a 0;open b 99;");
        x.go(1);
        Check.due("a on DAY 0", 1, x.tin(0, 4));
        x.go(98);
        Check.due("b isn't opened by DAY 99", 0, x.tin(1, 4));
        x.go(1);
        Check.due("b is opened on DAY 99", 1, x.tin(1, 4));
    }

    private static void wants() {
        Edges.terms("WANTS, at most 8: a KIND on a DAY 0 .. 99 for WORTH 1 .. 99.");
        String[] rests = new String[9];
        java.util.Arrays.fill(rests, " k 0 1;");
        Edges.most(8, KIND, "want", rests);
        Edges.range(KIND + "want k ", 0, 99, " 1;");
        Edges.range(KIND + "want k 0 ", 1, 99, ";");
        TinNation x = Check.nation(KIND + "want k 0 1;want k 99 99;");
        x.go(1);
        Check.due("MISSED on DAY 0", 1, x.count(10));
        x.go(98);
        Check.due("none more by DAY 99", 1, x.count(10));
        x.go(1);
        Check.due("MISSED on DAY 99", 2, x.count(10));
    }

    private static void numbersOfTheirOwn() {
        Edges.terms("keys: 0 .. 20 (20 without).");
        Edges.range("keys ", 0, 20, ";");
        for (int keys : new int[] {0, 1, 19, 20}) {
            Check.due("keys " + keys, keys, Check.nation("keys " + keys + ";").count(12));
        }
        Check.due("keys without", 20, Check.nation("rust 1;").count(12));

        Edges.terms("rust: of a hundred 0 .. 100 (0).");
        Edges.range("rust ", 0, 100, ";");
        for (int rust : new int[] {0, 1, 99, 100}) {
            TinNation x = Check.nation("rust " + rust + ";");
            Check.due("whole of rust " + rust, rust == 0 ? 1 : rust == 100 ? 0 : 100 - rust, x.whole(1, 0));
            Check.due("of so many, rust " + rust, rust % 100 == 0 ? 1 : 100, x.whole(1, 1));
        }
        Check.due("rust without", 1, Check.nation("keys 1;").whole(1, 0));

        Edges.terms("seed: 0 .. 99999 (0).");
        Edges.range("seed ", 0, 99999, ";");
        for (int seed : new int[] {0, 1, 99998, 99999}) {
            firstNumber("seed " + seed + ";", seed);
        }
        firstNumber("", 0);
    }

    /** The first number of a seed, seen from which odds on it is below. */
    private static void firstNumber(String text, int seed) {
        int number = Edges.numbers(seed, 1)[0] % 100;
        for (int rust = Math.max(1, number); rust <= Math.min(99, number + 1); rust++) {
            TinNation x = Check.nation(TIN + text + "rust " + rust + ";");
            x.go(1);
            Check.due("<" + text + "> with rust " + rust, Edges.bit(number < rust), x.tin(0, 1));
        }
    }

    private static void numbered() {
        Edges.terms("All numbered as they come;");
        TinNation x = Check.nation("kind b 2 1;kind a 1 1;tin d a 0 9 0;tin c b 0 8 0;want b 5 1;want a 4 2;open c 0;open d 0;keys 1;");
        Check.due("kind b", 0, x.named(0, Check.letters("b")));
        Check.due("kind a", 1, x.named(0, Check.letters("a")));
        Check.due("tin d", 0, x.named(1, Check.letters("d")));
        Check.due("tin c", 1, x.named(1, Check.letters("c")));
        Check.due("the first WANT's WORTH", 1, x.want(0, 2));
        Check.due("the second WANT's WORTH", 2, x.want(1, 2));
        x.go(1);
        Check.due("the first open has the key", 1, x.tin(1, 4));
        Check.due("the second has none", 0, x.tin(0, 4));

        Edges.terms("KINDS, TINS have names of their kind.");
        Edges.stands("kind k 1 1;tin k k 0 9 0;open k 0;want k 0 1;");
        Edges.fault(4, "kind k 1 1;tin t k 0 9 0;open ^k 0;");
        Edges.fault(4, "kind k 1 1;tin t k 0 9 0;want ^t 0 1;");
        Edges.fault(4, "kind k 1 1;tin t k 0 9 0;tin u ^t 0 9 0;");
    }

    private static void firstFault() {
        Edges.terms("FAULTS, the first along the text (of one place the least), with its place:");
        Edges.fault(2, "kind k ^100 10;");
        Edges.fault(2, "kind k 99 ^10");
        Edges.fault(1, "kind ^1 100 10;keys 21;");
        Edges.fault(3, TIN + "tin ^t x 10 100 4;");
        Edges.fault(4, KIND + "tin t ^x 10 100 4;");
        Edges.fault(2, KIND + "tin t k ^10 100 4;");
        Edges.fault(2, KIND + "tin t k 9 ^100 4;");
        Edges.fault(2, KIND + "tin t k 9 99 ^4;");
        Edges.fault(2, "keys ^21 !");
        Edges.fault(1, "keys 20 ^!");
        Edges.fault(2, "law fresh ^10000 10000;");
        // 1 and 4, 1 and 3, 1 and 2 of one place
        Edges.fault(1, "want ^abcdefg 0 1;");
        Edges.fault(1, "open ^tin 0;");
        Edges.fault(1, "keys 1;rust ^keys 1;");
        Edges.fault(1, "law fresh 1;law glory ^fresh;");
        Edges.fault(1, "kind k 1 1 ^100;");
        Edges.fault(1, "kind k 1 1;rust 1 ^100000;");
        Edges.fault(1, "law fresh 1 ^10000;");
        Edges.fault(1, "law fresh ((((((((1^(1))))))));");
        Edges.fault(1, "law fresh " + "not ".repeat(63) + "1 ^1;");
        Edges.fault(1, "law fresh " + "not ".repeat(64) + "^or;");
        Edges.fault(1, "kind a 1 1;kind b 1 1;kind c 1 1;kind d 1 1;kind e 1 1;kind f 1 1 ^kind g 1 1;");
    }

    private static void tokens() {
        Edges.terms("1 a TOKEN that is none (a word of more than 6 letters that is none of the language, too)");
        Edges.fault(1, "^!");
        Edges.fault(1, "keys 1; ^#");
        Edges.fault(1, "law fresh 1 ^& 1;");
        Edges.fault(1, "law fresh ^'1';");
        Edges.stands("kind abcdef 1 1;");
        Edges.fault(1, "kind ^abcdefg 1 1;");
        Edges.fault(1, "kind abcdef ^abcdefg;");
        Edges.fault(1, "^kindkind k 1 1;");
        Edges.fault(1, "law ^freshly 1;");
        Edges.fault(1, "law fresh ^weightt;");
        Edges.stands("law fresh weight;");

        Edges.terms("or can't stand there (the length, if more must come).");
        Edges.fault(1, "keys ^;");
        Edges.fault(1, "keys ^keys;");
        Edges.fault(1, "keys 1^)");
        Edges.fault(1, "keys^");
        Edges.fault(1, "keys ^");
        Edges.fault(1, "keys 1   \n^");
        Edges.fault(1, "keys 1;kind^");
        Edges.fault(1, " ".repeat(696) + "keys^");
        Edges.fault(1, " ".repeat(694) + "keys 1^");
        Edges.stands(" ".repeat(693) + "keys 1;");
    }

    private static void tooMuch() {
        Edges.terms("2 too much (at it): a number beyond what is said,");
        Edges.fault(2, "kind k ^0 1;");
        Edges.fault(2, "kind k ^00 1;");
        Edges.fault(2, "kind k  ^100 1;");
        Edges.fault(2, "seed ^100000;");
        Edges.fault(2, "seed ^" + "9".repeat(600) + ";");

        Edges.terms("a seventh kind and so on (at the word of the LINE),");
        Edges.fault(2, "kind a 1 1;kind b 1 1;kind c 1 1;kind d 1 1;kind e 1 1;kind f 1 1; ^kind a 0 1;");
        Edges.stands("kind a 1 1;kind b 1 1;kind c 1 1;kind d 1 1;kind e 1 1;kind f 1 1;");
        StringBuilder tins = new StringBuilder(KIND);
        for (char name = 'a'; name <= 'h'; name++) {
            tins.append("tin ").append(name).append(" k 0 9 0;");
        }
        Edges.fault(2, tins + "\n^tin a k 0 9 0;");
        Edges.fault(2, TIN + "open t 1;".repeat(10) + " ^open x 1;");
        Edges.fault(2, KIND + "want k 1 1;".repeat(8) + " ^want x 1 1;");

        Edges.terms("a ninth '(' open,");
        Check.good("law fresh " + "(".repeat(7) + "1" + ")".repeat(7) + ";", 1, 1);
        Check.good("law fresh " + "(".repeat(8) + "1" + ")".repeat(8) + ";", 1, 1);
        Edges.fault(2, "law fresh " + "(".repeat(8) + "^(1" + ")".repeat(9) + ";");
        Edges.fault(2, "law fresh " + "(".repeat(8) + "^(");
        // only those that are still open count
        Check.good("law fresh " + "((((((((1))))))))+".repeat(3) + "((((((((1))))))));", 1, 7);
        Check.good("law fresh (((((((1+(1))+(1)))))));", 1, 5);
        Edges.fault(2, "law fresh (((((((1+(1))+((1+^(1;");
        Check.good("law fresh ((((((((1))))))));law blow ((((((((1))))))));", 2, 2);
        Edges.fault(2, "law fresh ((((((((1))))))));law blow ((((((((^(1;");
    }

    private static void knots() {
        Edges.terms("a 65th KNOT of all E (N, NAMES, signs, not, and, or: one each).");
        Check.good("law fresh " + "1+".repeat(31) + "1;", 1, 63);
        Check.good("law fresh not " + "1+".repeat(31) + "1;", 1, 64);
        // the 65th as a number, a NAME, each sign, not, and, or
        String sixtyFour = "law fresh not " + "1+".repeat(31) + "1";
        Edges.fault(2, "law fresh " + "1+".repeat(32) + "^1;");
        Edges.fault(2, "law fresh " + "1+".repeat(32) + "^dents;");
        Edges.fault(2, "law fresh " + "1+".repeat(32) + "(^10000);");
        Edges.fault(2, "law fresh " + "not ".repeat(64) + "^1;");
        Edges.fault(2, "law fresh " + "not ".repeat(64) + "^day;");
        Edges.fault(2, "law fresh " + "not ".repeat(64) + "^not 1;");
        for (String sign : new String[] {"+", "-", "*", "/", "<", "<=", "=", "<>", ">=", ">", "and", "or"}) {
            Edges.fault(2, sixtyFour + " ^" + sign + " 1;");
        }
        Edges.stands(sixtyFour + ";keys 1;");
        Edges.stands("law fresh not " + "1+".repeat(30) + "((1)+(1));");
        // of all E together
        Check.good("law fresh " + "1+".repeat(15) + "1;law glory " + "1+".repeat(15) + "1;law blow 1;", 3, 63);
        Check.good("law fresh " + "1+".repeat(15) + "1;law glory " + "1+".repeat(15) + "1;law blow not 1;", 3, 64);
        Edges.fault(2, "law fresh " + "1+".repeat(15) + "1;law glory " + "1+".repeat(15) + "1;law blow not not ^1;");
        // and all 64 are worked out
        for (int i = 0; i < 2; i++) {
            String one = "law blow 7;";
            String more = "law fresh " + "1+".repeat(31) + "1;";
            TinNation x = Check.nation(TIN + (i == 0 ? one + more : more + one));
            Check.due("64 KNOTS", 64, x.count(3));
            Check.due("the E of 63", 32, x.law(0, 0, 0));
            Check.due("the E of one", 7, x.law(2, 0, 0));
            Check.due("not of " + i, 1 - i, Check.nation(TIN + "law fresh " + "not ".repeat(63) + i + ";").law(0, 0, 0));
            String deep = "0 or 1 and 1<1+1*(".repeat(6) + i + ")".repeat(6);
            Check.due("what waits for " + i, i, Check.nation(TIN + "law fresh " + deep + ";").law(0, 0, 0));
        }
        Edges.fault(2, sixtyFour + ";law blow ^1;");
        Edges.fault(2, sixtyFour + ";law blow (^day);");
    }

    private static void toldAlready() {
        Edges.terms("3 told already: a name of its kind (at W), keys, rust, seed (at the word), a law of its RULE (at RULE).");
        Edges.fault(3, "kind k 1 1;kind ^k 1 1;");
        Edges.fault(3, "kind k 1 1;kind kk 1 1;kind ^k 1 1;");
        Edges.fault(3, "kind abcdef 1 1;kind ^abcdef 0 1;");
        Edges.stands("kind abcdef 1 1;kind abcdee 1 1;kind abcde 1 1;kind a 1 1;");
        Edges.fault(3, TIN + "tin ^t k 0 9 0;");
        Edges.stands(TIN + "tin tt k 0 9 0;tin k k 0 9 0;");
        for (String word : new String[] {"keys", "rust", "seed"}) {
            Edges.stands(word + " 0;");
            Edges.fault(3, word + " 0;^" + word + " 0;");
            Edges.fault(3, word + " 1; ^" + word);
            Edges.fault(3, word + " 1;law fresh 1;^" + word + " 999999;");
        }
        Edges.stands("seed 1;rust 1;keys 1;");
        for (String rule : new String[] {"fresh", "glory", "blow"}) {
            Edges.fault(3, "law " + rule + " 1;law ^" + rule + " 1;");
            Edges.fault(3, "law " + rule + " 1;law  ^" + rule);
        }
        Edges.fault(3, "law blow 1;law glory 1;law fresh 1;law ^glory !");
        Edges.stands("law blow 1;law glory 1;law fresh 1;");
    }

    private static void notToldAhead() {
        Edges.terms("4 a KIND, a TIN that isn't told ahead (at W).");
        Edges.fault(4, "tin t ^k 0 9 0;");
        Edges.fault(4, "tin t ^k 0 9 0;kind k 1 1;");
        Edges.fault(4, "kind kk 1 1;tin t ^k 0 9 0;");
        Edges.fault(4, "open ^t 0;" + TIN);
        Edges.fault(4, KIND + "open ^t 0;tin t k 0 9 0;");
        Edges.fault(4, TIN + "open ^tt 0;");
        Edges.fault(4, "want ^k 0 1;" + KIND);
        Edges.fault(4, KIND + "want ^ka 0 1;");
        Edges.stands(KIND + "want k 0 1;kind ka 1 1;want ka 0 1;tin t ka 0 9 0;open t 0;");
        // a name that a text with a FAULT told is none of the next text
        TinNation x = Check.nation(TIN);
        Check.due("names of the text before", -1, Check.tell(x, "want k 0 1;"));
        Check.due("are not told", 4, x.fault(0));
        Check.tell(x, "kind z 1 1;keys 21;");
        Check.due("names of one with a FAULT", -1, Check.tell(x, "want z 0 1;"));
        Check.due("are not told either", 4, x.fault(0));
    }
}
