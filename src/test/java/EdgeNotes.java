/** The edges that the promises 26 to 33 name: NOTES, SIGHTS, STRIKES, what follows from those that are KNOWN, and chance. */
final class EdgeNotes {
    private static final String KINDS = "kind a 1 0;kind b 2 1;kind c 49 4;kind d 50 5;kind e 98 8;kind f 99 9;";
    private static final int[] WEIGHTS = {1, 2, 49, 50, 98, 99};
    private static final int[] SOUNDS = {0, 1, 4, 5, 8, 9};
    private static final String TIN = "kind k 1 1;tin a k 3 99 0;tin b k 0 2 1;";
    private static final int ALL = 1023;

    private EdgeNotes() {
    }

    static void run() {
        notes();
        note();
        sights();
        see();
        strike();
        known();
        knownByHowMany();
        which();
        ask();
        dented();
        dentedByAll();
        chance();
        noSuchChance();
    }

    private static void notes() {
        Edges.passage(3, "A NOTE, at most 24 with all, numbered from 0 on:");
        TinNation x = Check.nation(TIN);
        for (int i = 0; i < 24; i++) {
            Check.due("how many there are", i, x.count(13));
            Check.due("numbered", i, i % 3 == 0 ? x.note(0, 1, true) : i % 3 == 1 ? x.see(1, 0, true) : x.strike(0));
        }
        Check.due("24", 24, x.count(13));
        Check.due("a 25th NOTE", -1, x.note(0, 1, true));
        Check.due("a 25th SIGHT", -1, x.see(1, 0, true));
        Check.due("a 25th STRIKE", -1, x.strike(0));
        Check.due("24 still", 24, x.count(13));
        Check.tell(x, TIN);
        Check.due("from 0 on in the next text", 0, x.note(0, 1, true));

        Edges.passage(3, "the TIN in question weighs so much 0 .. 99 at least, or less;");
        for (int much = 0; much <= 99; much++) {
            int atLeast = 0;
            for (int kind = 0; kind < 6; kind++) {
                atLeast |= Edges.bit(WEIGHTS[kind] >= much) << kind;
            }
            whichIs(atLeast, 0, much, true);
            whichIs(63 - atLeast, 0, much, false);
        }

        Edges.passage(3, "or it sounds so 0 .. 9 at least, or less.");
        for (int much = 0; much <= 9; much++) {
            int atLeast = 0;
            for (int kind = 0; kind < 6; kind++) {
                atLeast |= Edges.bit(SOUNDS[kind] >= much) << kind;
            }
            whichIs(atLeast, 1, much, true);
            whichIs(63 - atLeast, 1, much, false);
        }
    }

    private static void whichIs(int due, int what, int much, boolean atLeast) {
        TinNation x = Check.nation(KINDS);
        Check.due("note(" + what + ", " + much + ", " + atLeast + ")", 0, x.note(what, much, atLeast));
        Check.due("which() by note(" + what + ", " + much + ", " + atLeast + ")", due, x.which());
    }

    private static void note() {
        Edges.promise(26, "A NOTE (what 0 weighs, 1 sounds): its number;");
        TinNation x = Check.nation(KINDS);
        Check.due("weighs 50 at least", 0, x.note(0, 50, true));
        Check.due("d, e, f", 56, x.which());
        Check.due("sounds less than 9", 1, x.note(1, 9, false));
        Check.due("d, e", 24, x.which());
        Check.due("the same again", 2, x.note(1, 9, false));
        Check.due("d, e still", 24, x.which());

        Edges.promise(26, "NONE: no such ones, or there are 24 in all.");
        for (int i = 0; i < 2; i++) {
            boolean atLeast = i == 0;
            Edges.none("weighs", -1, 0, 99, much -> x.note(0, much, atLeast));
            Edges.none("sounds", -1, 0, 9, much -> x.note(1, much, atLeast));
            Edges.none("what", -1, 0, 1, what -> x.note(what, 5, atLeast));
        }
        Check.due("none of it is told", 3, x.count(13));
        for (int i = 3; i < 24; i++) {
            Check.due("numbered on", i, x.note(0, 99, true));
        }
        Check.due("a 25th", -1, x.note(0, 0, true));
        Check.due("a 25th", -1, x.note(1, 0, false));
    }

    private static void sights() {
        Edges.passage(3, "A SIGHT: behind so many DAYS 1 .. 60");
        for (int days : new int[] {2, 3, 59, 60}) {
            // BLOWN on the DAY that it keeps to, so behind one DAY more than it keeps
            dentedIs("BLOWN behind " + days + ", keeps one less", ALL, days, days - 1, true);
            dentedIs("BLOWN behind " + days + ", keeps so many", 0, days, days, true);
            dentedIs("not BLOWN behind " + days + ", keeps one less", 0, days, days - 1, false);
            dentedIs("not BLOWN behind " + days + ", keeps so many", ALL, days, days, false);
        }
        dentedIs("BLOWN behind 1, keeps 1", 0, 1, 1, true);
        dentedIs("not BLOWN behind 1, keeps 1", ALL, 1, 1, false);

        Edges.passage(3, "(as it goes from the TEXT on, nothing done by call)");
        TinNation x = Check.nation("kind k 1 1;tin a k 0 99 0;tin b k 5 99 1;tin c k 0 99 1;open c 3;rust 50;");
        x.see(5, 1, true);
        x.see(4, 1, false);
        Check.due("five DAYS rust", 1 << 5, x.dented(1));
        x.dent(1);
        x.put(2, 0);
        x.open(2);
        x.find(9);
        Check.due("whatever was done", 1 << 5, x.dented(1));
        x.go(20);
        Check.due("whatever DAY it is", 1 << 5, x.dented(1));
        Check.due("of another TIN any is so", ALL, x.dented(0));
        TinNation told = Check.nation("kind k 1 1;tin a k 0 3 0;open a 3;");
        told.see(4, 0, false);
        Check.due("what is told is done", ALL, told.dented(0));
        TinNation numbers = Check.nation("kind k 1 1;tin a k 0 99 0;rust 49;seed 0;");
        numbers.see(60, 0, true);
        Check.due("without numbers", 0, numbers.dented(0));

        Edges.passage(3, "a TIN was BLOWN, or wasn't; numbered on with NOTES.");
        TinNation y = Check.nation("kind k 1 1;tin a k 3 99 0;tin b k 3 99 1;open b 1;rust 100;");
        Check.due("a NOTE", 0, y.note(0, 1, true));
        Check.due("a SIGHT", 1, y.see(7, 0, true));
        Check.due("BLOWN behind 7", 1016, y.dented(0));
        Check.due("another", 2, y.see(6, 0, false));
        Check.due("and not behind 6", 8, y.dented(0));
        Check.due("a NOTE", 3, y.note(0, 1, true));
        Check.due("one that is EMPTY wasn't BLOWN", 4, y.see(60, 1, false));
        Check.due("so it is so", 8, y.dented(0));
        Check.due("it was", 5, y.see(60, 1, true));
        Check.due("so none is so", 0, y.dented(0));
    }

    /** What DENTED is by one SIGHT of a TIN that doesn't rust. */
    private static void dentedIs(String what, int due, int days, int keeps, boolean isBlown) {
        TinNation x = Check.nation("kind k 1 1;tin a k 0 " + keeps + " 0;");
        Check.due("a SIGHT", 0, x.see(days, 0, isBlown));
        Check.due(what, due, x.dented(0));
    }

    private static void see() {
        Edges.promise(27, "A SIGHT: its number;");
        TinNation x = Check.nation(TIN);
        Check.due("the least", 0, x.see(1, 0, true));
        Check.due("the most", 1, x.see(60, 1, false));
        Check.due("the same again", 2, x.see(60, 1, false));

        Edges.promise(27, "NONE: no such ones, or there are 24 in all.");
        Edges.none("days", -1, 1, 60, days -> x.see(days, 0, true));
        Edges.none("days", -1, 1, 60, days -> x.see(days, 1, false));
        Edges.none("tin", -1, 0, 1, tin -> x.see(1, tin, true));
        Edges.none("tin", -1, 0, 1, tin -> x.see(60, tin, false));
        Check.due("none of it is told", 3, x.count(13));
        for (int i = 3; i < 24; i++) {
            Check.due("numbered on", i, x.see(i, 0, false));
        }
        Check.due("a 25th", -1, x.see(1, 0, true));
        Edges.none("tin of a new one", -1, 0, -1, tin -> new TinNation().see(1, tin, true));
    }

    private static void strike() {
        Edges.passage(3, "A STRIKE of one of these.");
        TinNation x = Check.nation(KINDS + "tin a a 0 9 0;");
        x.note(0, 50, true);
        x.see(5, 0, true);
        Check.due("of a NOTE", 2, x.strike(0));
        Check.due("it doesn't count then", 63, x.which());
        Check.due("the SIGHT does", 0, x.dented(0));
        Check.due("of a SIGHT", 3, x.strike(1));
        Check.due("it doesn't count then", ALL, x.dented(0));
        Check.due("of a STRIKE", 4, x.strike(3));
        Check.due("the SIGHT counts again", 0, x.dented(0));
        Check.due("one more of the NOTE", 5, x.strike(0));
        Check.due("it doesn't count", 63, x.which());
        Check.due("the first of both", 6, x.strike(2));
        Check.due("it doesn't count still", 63, x.which());
        Check.due("and the other", 7, x.strike(5));
        Check.due("now it does", 56, x.which());

        Edges.promise(28, "A STRIKE: its number; NONE: no such one, or there are 24 in all.");
        TinNation y = Check.nation(KINDS);
        Edges.none("strike of none", -1, 0, -1, y::strike);
        y.note(0, 50, true);
        Edges.none("strike of one", -1, 0, 0, y::strike);
        Check.due("none of it is told", 1, y.count(13));
        for (int i = 1; i < 24; i++) {
            int last = i - 1;
            Edges.none("strike of " + i, -1, 0, last, y::strike);
            Check.due("of itself", -1, y.strike(i));
            Check.due("of the latest", i, y.strike(last));
            Check.due("the NOTE counts by turns", i % 2 == 0 ? 56 : 63, y.which());
        }
        Check.due("a 25th of the first", -1, y.strike(0));
        Check.due("a 25th of the last", -1, y.strike(23));
        Edges.none("strike of 24", -1, 0, 23, y::strike);
    }

    private static void known() {
        Edges.passage(3, "KNOWN by n (all at first): the first n that aren't STRUCK by one of these");
        TinNation x = Check.nation(KINDS);
        x.note(0, 2, true);
        x.note(0, 49, true);
        x.note(0, 50, true);
        x.strike(1);
        x.strike(0);
        x.note(0, 99, true);
        Check.due("all at first", 32, x.which());
        int[] due = {63, 62, 60, 56, 56, 56, 32};
        for (int n = 0; n <= 6; n++) {
            x.known(n);
            Check.due("by " + n, due[n], x.which());
        }
        TinNation y = Check.nation(KINDS);
        y.note(0, 99, true);
        y.strike(0);
        y.known(1);
        Check.due("a STRIKE that isn't one of the first n", 32, y.which());
        y.known(2);
        Check.due("one that is", 63, y.which());

        Edges.passage(3, "(a STRIKE may be STRUCK: then it doesn't count; asked from the last one on).");
        TinNation z = Check.nation(KINDS);
        z.note(0, 99, true);
        z.strike(0);
        z.strike(1);
        z.strike(2);
        z.strike(3);
        int[] turns = {63, 32, 63, 32, 63, 32};
        for (int n = 0; n <= 5; n++) {
            z.known(n);
            Check.due("by " + n + " of a chain", turns[n], z.which());
        }
        // the later STRIKE is asked first: it strikes the earlier one's, though that one came ahead of it
        TinNation w = Check.nation(KINDS);
        w.note(0, 99, true);
        w.note(1, 5, true);
        w.strike(0);
        w.strike(1);
        w.strike(2);
        Check.due("the first counts, the second is STRUCK", 32, w.which());
        w.strike(3);
        Check.due("both count", 32, w.which());
        w.strike(4);
        Check.due("the second alone", 56, w.which());
    }

    private static void knownByHowMany() {
        Edges.promise(29, "KNOWN by n from now on (-1: by all, also those to come): true;");
        TinNation x = Check.nation(KINDS);
        Check.due("none of none", true, x.known(0));
        x.note(0, 50, true);
        Check.due("by none still", 63, x.which());
        Check.due("by none still", 0, x.count(14));
        Check.due("one of one", true, x.known(1));
        Check.due("by one", 56, x.which());
        x.note(0, 99, true);
        Check.due("by one still", 56, x.which());
        Check.due("all", true, x.known(-1));
        Check.due("by all", 32, x.which());
        Check.due("by two", 2, x.count(14));
        x.note(1, 9, false);
        Check.due("also those to come", 0, x.which());
        Check.due("by three", 3, x.count(14));
        for (int n = 0; n <= 3; n++) {
            Check.due("known(" + n + ")", true, x.known(n));
            Check.due("by how many", n, x.count(14));
        }

        Edges.promise(29, "false: no such n.");
        x.known(2);
        for (int n : new int[] {-2, -3, 4, 5, 24, 25, Integer.MIN_VALUE, Integer.MAX_VALUE}) {
            Check.due("known(" + n + ") of three", false, x.known(n));
            Check.due("as it was", 2, x.count(14));
        }
        TinNation y = Check.nation(KINDS);
        Check.due("one of none", false, y.known(1));
        for (int i = 0; i < 24; i++) {
            y.note(0, 1, true);
        }
        Check.due("24 of 24", true, y.known(24));
        Check.due("25 of 24", false, y.known(25));
        Check.tell(y, KINDS);
        Check.due("none is told in the next text", false, y.known(1));
        y.note(0, 99, true);
        Check.due("of which all are KNOWN", 32, y.which());
    }

    private static void which() {
        Edges.passage(3, "WHICH: KINDS (bits) of which all KNOWN NOTES are so.");
        TinNation x = Check.nation(KINDS + "tin t a 0 1 0;");
        Check.due("no NOTES", 63, x.which());
        x.see(1, 0, true);
        Check.due("a SIGHT is no NOTE", 63, x.which());
        x.note(0, 49, true);
        x.note(0, 99, false);
        Check.due("c, d, e", 28, x.which());
        x.note(1, 5, true);
        Check.due("d, e", 24, x.which());
        x.note(1, 8, false);
        Check.due("d", 8, x.which());
        x.note(1, 4, false);
        Check.due("none", 0, x.which());

        Edges.promise(30, "WHICH (bits).");
        Check.due("no KINDS", 0, new TinNation().which());
        Check.due("one KIND", 1, Check.nation("kind k 1 1;").which());
        Check.due("six KINDS", 63, Check.nation(KINDS).which());
        TinNation last = Check.nation(KINDS);
        last.note(0, 99, true);
        Check.due("the last", 32, last.which());
        TinNation first = Check.nation(KINDS);
        first.note(0, 2, false);
        Check.due("the first", 1, first.which());
    }

    private static void askIs(int weight, int left, int... weights) {
        StringBuilder text = new StringBuilder();
        for (int i = 0; i < weights.length; i++) {
            text.append("kind ").append((char) ('a' + i)).append(' ').append(weights[i]).append(" 1;");
        }
        TinNation x = Check.nation(text.toString());
        Check.due("ask(0) of <" + text + ">", weight, x.ask(0));
        Check.due("ask(1) of <" + text + ">", left, x.ask(1));
    }

    private static void ask() {
        Edges.passage(3, "ASK: the weight 1 .. 99 by which as few KINDS of WHICH as may be are left at worst, if one asks whether it weighs so much at least, the first of several.");
        askIs(1, 0);
        askIs(1, 1, 1);
        askIs(1, 1, 99);
        askIs(2, 1, 1, 2);
        askIs(2, 1, 1, 99);
        askIs(2, 1, 99, 1);
        askIs(99, 1, 98, 99);
        askIs(98, 1, 97, 98);
        askIs(1, 2, 50, 50);
        askIs(1, 2, 1, 1);
        askIs(1, 2, 99, 99);
        askIs(2, 2, 1, 1, 99);
        askIs(11, 2, 10, 20, 30);
        askIs(21, 2, 10, 20, 30, 40);
        askIs(4, 3, 1, 2, 3, 4, 5, 6);
        askIs(97, 3, 94, 95, 96, 97, 98, 99);
        askIs(51, 3, 50, 50, 50, 51, 51, 51);
        askIs(1, 6, 7, 7, 7, 7, 7, 7);
        TinNation x = Check.nation(KINDS);
        Check.due("of six", 50, x.ask(0));
        x.note(1, 4, true);
        Check.due("of WHICH", 51, x.ask(0));
        Check.due("two left", 2, x.ask(1));
        x.known(0);
        Check.due("of those KNOWN", 50, x.ask(0));

        Edges.promise(31, "ASK, what 0: the weight, 1: how many KINDS are left at worst.");
        Check.due("left of six", 3, x.ask(1));
        Check.due("the weight of none", 1, new TinNation().ask(0));
        Check.due("left of none", 0, new TinNation().ask(1));

        Edges.promise(31, "NONE for another what.");
        Edges.none("ask", -1, 0, 1, x::ask);
        Edges.none("ask of a new one", -1, 0, 1, new TinNation()::ask);
    }

    private static void dented() {
        Edges.passage(3, "DENTED of a TIN: DENTS 0 .. 9 (bits) at first, in place of what was told,");
        for (int told : new int[] {0, 5, 9}) {
            for (int days = 1; days <= 12; days++) {
                TinNation x = Check.nation("kind k 1 1;tin a k " + told + " 99 0;rust 50;");
                x.see(days, 0, true);
                int due = days >= 10 ? ALL : ALL & ~((1 << 10 - days) - 1);
                Check.due("BLOWN behind " + days + ", " + told + " told", due, x.dented(0));
                TinNation y = Check.nation("kind k 1 1;tin a k " + told + " 99 0;rust 50;");
                y.see(days, 0, false);
                Check.due("not BLOWN behind " + days + ", " + told + " told", ALL - due, y.dented(0));
            }
        }
        TinNation one = Check.nation("kind k 1 1;tin a k 0 99 0;rust 50;");
        one.see(10, 0, true);
        one.see(9, 0, false);
        Check.due("0 at first", 1, one.dented(0));
        TinNation nine = Check.nation("kind k 1 1;tin a k 0 99 0;rust 50;");
        nine.see(1, 0, true);
        Check.due("9 at first", 512, nine.dented(0));

        Edges.promise(32, "DENTED (bits); NONE: no such TIN.");
        TinNation x = Check.nation(TIN);
        Check.due("nothing seen, the first", ALL, x.dented(0));
        Check.due("nothing seen, the last", ALL, x.dented(1));
        Edges.none("dented", -1, 0, 1, x::dented);
        Edges.none("dented of a new one", -1, 0, -1, new TinNation()::dented);
    }

    private static void dentedByAll() {
        Edges.passage(3, "by which all KNOWN SIGHTS are so.");
        TinNation x = Check.nation("kind k 1 1;tin a k 5 99 0;tin b k 5 99 1;rust 50;");
        x.see(4, 0, true);
        Check.due("6 at least", 960, x.dented(0));
        Check.due("none of b, as a is told", 0, x.dented(1));
        x.see(3, 0, false);
        Check.due("6", 64, x.dented(0));
        x.strike(0);
        Check.due("6 at most", 127, x.dented(0));
        Check.due("any of b, as a is told", ALL, x.dented(1));
        x.known(1);
        Check.due("by the first", 960, x.dented(0));
        x.known(0);
        Check.due("by none", ALL, x.dented(0));
        x.known(-1);
        x.see(5, 1, false);
        Check.due("b told by 5 is BLOWN behind 5", 0, x.dented(0));
        Check.due("so it was 4 at most", 31, x.dented(1));
        // a SIGHT of one that depends on another: it is opened only if the one above is BLOWN
        TinNation y = Check.nation("kind k 1 1;tin a k 0 2 0;tin b k 0 99 0;open a 2;law blow (keeps=99)*50;");
        y.see(3, 0, false);
        Check.due("b was 8 at least", 768, y.dented(1));
        y.strike(0);
        y.see(3, 0, true);
        Check.due("b was 7 at most", 255, y.dented(1));
        Check.due("as it is told, a was any", ALL, y.dented(0));
    }

    /** Ten times so many DAYS, worked out by big numbers, of TINS that keep and whose odds are the same. */
    private static int times(int seed, int n, int tins, int[] dents, int rust) {
        int[] numbers = Edges.numbers(seed, 10 * n * dents.length);
        int at = 0;
        int times = 0;
        for (int i = 0; i < 10; i++) {
            int[] now = dents.clone();
            int blown = 0;
            for (int day = 0; day < n; day++) {
                for (int tin = 0; tin < now.length; tin++) {
                    if (now[tin] < 10) {
                        now[tin] += Edges.bit(numbers[at++] % 100 < rust);
                        blown += Edges.bit(now[tin] == 10);
                    }
                }
            }
            times += Edges.bit(blown >= tins);
        }
        return times;
    }

    private static void chance() {
        Edges.promise(33, "In how many of ten times drawn (numbers from a seed 0 .. 2147483647 on, one behind another; n 1 .. 99 DAYS from now) so many TINS 0 .. 8 at least are BLOWN then;");
        int[] dents = {9, 8, 7, 9, 9, 8, 9, 0};
        StringBuilder text = new StringBuilder("kind k 1 1;");
        for (int i = 0; i < 8; i++) {
            text.append("tin ").append((char) ('a' + i)).append(" k ").append(dents[i]).append(" 99 0;");
        }
        for (int rust : new int[] {1, 10, 50, 99}) {
            TinNation x = Check.nation(text + "seed 3;rust " + rust + ";");
            for (int seed : new int[] {0, 1, 65536, 2147483646, 2147483647}) {
                for (int n : new int[] {1, 2, 98, 99}) {
                    for (int tins = 0; tins <= 8; tins++) {
                        Check.due("chance(" + seed + ", " + n + ", " + tins + ") of rust " + rust, times(seed, n, tins, dents, rust), x.chance(seed, n, tins));
                    }
                }
            }
        }
        for (int rust : new int[] {0, 100}) {
            TinNation x = Check.nation(text + "rust " + rust + ";");
            Check.due("four of 9 on the first DAY, rust " + rust, rust / 10, x.chance(5, 1, 4));
            Check.due("five of them, rust " + rust, 0, x.chance(5, 1, 5));
            Check.due("all in ten DAYS, rust " + rust, rust / 10, x.chance(5, 10, 8));
            Check.due("not in nine, rust " + rust, 0, x.chance(5, 9, 8));
        }
        TinNation keeps = Check.nation("kind k 1 1;tin a k 0 98 0;tin b k 0 99 1;");
        Check.due("DAY 98 is the last of 99", 10, keeps.chance(0, 99, 1));
        Check.due("DAY 97 is the last of 98", 0, keeps.chance(0, 98, 1));
        Check.due("not both", 0, keeps.chance(0, 99, 2));
        keeps.go(1);
        Check.due("both, from now", 10, keeps.chance(0, 99, 2));
        keeps.go(98);
        Check.due("those that are BLOWN are", 10, keeps.chance(0, 1, 1));
        Check.due("no TINS at least", 10, new TinNation().chance(0, 1, 0));
        Check.due("one of none", 0, new TinNation().chance(0, 99, 1));
        TinNation own = Check.nation("kind k 1 1;tin a k 0 99 0;seed 1;rust 39;");
        own.chance(77, 99, 0);
        own.go(1);
        Check.due("the nation's own numbers stay: 38", 1, own.tin(0, 1));
    }

    private static void noSuchChance() {
        Edges.promise(33, "NONE: no such ones.");
        TinNation x = Check.nation(TIN);
        Check.due("the least seed", 10, x.chance(0, 1, 0));
        Check.due("the most", 10, x.chance(2147483647, 1, 0));
        for (int seed : new int[] {-1, -2, Integer.MIN_VALUE, Integer.MIN_VALUE + 1}) {
            Check.due("seed " + seed, -1, x.chance(seed, 1, 0));
        }
        Edges.none("n", -1, 1, 99, n -> x.chance(0, n, 0));
        Edges.none("tins", -1, 0, 8, tins -> x.chance(0, 1, tins));
        Edges.none("tins, n 99", -1, 0, 8, tins -> x.chance(2147483647, 99, tins));
        Check.due("eight of two", 0, x.chance(0, 99, 8));
    }
}
