/** Promises 26 to 33: note, see, strike, known, which, ask, dented, chance. */
public final class NotesTest {
    private static final String KINDS = "kind a 10 0;kind b 20 3;kind c 30 6;kind d 40 9;kind e 40 0;";

    public static void main(String[] args) {
        notes();
        numbers();
        strikes();
        known();
        ask();
        dented();
        dentedByOthers();
        chance();
        Check.end("NotesTest");
    }

    private static void notes() {
        TinNation x = Check.nation(KINDS);
        Check.due("all at first", 31, x.which());
        Check.due("first", 0, x.note(0, 20, true));
        Check.due("20 at least", 30, x.which());
        Check.due("second", 1, x.note(0, 40, false));
        Check.due("less than 40", 6, x.which());
        Check.due("third", 2, x.note(1, 6, false));
        Check.due("sounds less than 6", 2, x.which());
        Check.due("fourth", 3, x.note(1, 3, true));
        Check.due("sounds 3 at least", 2, x.which());
        Check.due("fifth", 4, x.note(1, 4, true));
        Check.due("none", 0, x.which());
        Check.due("what 2", -1, x.note(2, 1, true));
        Check.due("what below 0", -1, x.note(-1, 1, true));
        Check.due("weighs 100", -1, x.note(0, 100, true));
        Check.due("weighs less than 0", -1, x.note(0, -1, true));
        Check.due("sounds 10", -1, x.note(1, 10, true));
        Check.due("sounds less than 0", -1, x.note(1, -1, true));
        Check.due("so many", 5, x.count(13));
        TinNation y = Check.nation(KINDS);
        y.note(0, 0, true);
        y.note(0, 99, false);
        y.note(1, 0, true);
        Check.due("edges", 31, y.which());
        y.note(1, 9, true);
        Check.due("9", 8, y.which());
        y.note(0, 0, false);
        Check.due("less than 0", 0, y.which());
    }

    private static void numbers() {
        TinNation x = Check.nation("kind k 1 1;tin t k 0 9 0;");
        Check.due("days 0", -1, x.see(0, 0, true));
        Check.due("days 61", -1, x.see(61, 0, true));
        Check.due("no such tin", -1, x.see(1, 1, true));
        Check.due("tin below 0", -1, x.see(1, -1, true));
        Check.due("nothing to strike", -1, x.strike(0));
        for (int i = 0; i < 24; i++) {
            int number = i % 3 == 0 ? x.note(0, 99, false) : i % 3 == 1 ? x.see(i % 2 == 0 ? 1 : 60, 0, i % 2 != 0) : x.strike(0);
            Check.due("numbered on", i, number);
            Check.due("no such one yet", -1, x.strike(i + 1));
            Check.due("one below 0", -1, x.strike(-1));
        }
        Check.due("a 25th note", -1, x.note(0, 1, true));
        Check.due("a 25th sight", -1, x.see(1, 0, true));
        Check.due("a 25th strike", -1, x.strike(0));
        Check.due("24 in all", 24, x.count(13));
    }

    private static void strikes() {
        TinNation x = Check.nation(KINDS);
        x.note(0, 40, true);
        x.note(1, 9, true);
        Check.due("d", 8, x.which());
        x.strike(1);
        Check.due("d, e", 24, x.which());
        x.strike(2);
        Check.due("a STRIKE that is STRUCK doesn't count", 8, x.which());
        x.strike(3);
        Check.due("and so on", 24, x.which());
        x.strike(0);
        Check.due("all", 31, x.which());
        x.strike(2);
        Check.due("the second counts, the first is STRUCK", 8, x.which());
        x.strike(5);
        x.strike(6);
        x.strike(4);
        Check.due("both NOTES count", 8, x.which());
    }

    private static void known() {
        TinNation x = Check.nation(KINDS);
        x.note(0, 40, true);
        x.note(1, 9, true);
        x.strike(0);
        Check.due("by three", 8, x.which());
        Check.due("known(0)", true, x.known(0));
        Check.due("by none", 31, x.which());
        Check.due("known(1)", true, x.known(1));
        Check.due("by one", 24, x.which());
        Check.due("known(2)", true, x.known(2));
        Check.due("by two", 8, x.which());
        Check.due("known(1)", true, x.known(1));
        x.note(0, 99, true);
        Check.due("by one, whatever comes", 24, x.which());
        Check.due("by how many", 1, x.count(14));
        Check.due("known(4)", true, x.known(4));
        Check.due("by four", 0, x.which());
        Check.due("known(5)", false, x.known(5));
        Check.due("known(-2)", false, x.known(-2));
        Check.due("by four still", 4, x.count(14));
        x.strike(3);
        Check.due("a STRIKE that isn't among them", 0, x.which());
        Check.due("known(-1)", true, x.known(-1));
        Check.due("by all", 8, x.which());
        x.note(0, 99, true);
        Check.due("those to come, too", 0, x.which());
    }

    private static void askIs(TinNation x, int weight, int left) {
        Check.due("the weight", weight, x.ask(0));
        Check.due("left at worst", left, x.ask(1));
    }

    private static void ask() {
        TinNation x = Check.nation(KINDS);
        askIs(x, 21, 3);
        x.note(1, 3, true);
        askIs(x, 21, 2);
        x.note(0, 30, true);
        askIs(x, 31, 1);
        x.note(0, 40, true);
        askIs(x, 1, 1);
        x.note(0, 40, false);
        askIs(x, 1, 0);
        Check.due("what 2", -1, x.ask(2));
        Check.due("what below 0", -1, x.ask(-1));
        TinNation same = Check.nation("kind a 99 0;kind b 99 3;");
        askIs(same, 1, 2);
        TinNation last = Check.nation("kind a 98 0;kind b 99 3;");
        askIs(last, 99, 1);
    }

    private static void dented() {
        TinNation x = Check.nation("kind k 1 1;tin a k 0 40 0;tin b k 0 5 1;rust 50;");
        Check.due("nothing seen", 1023, x.dented(0));
        x.see(4, 0, true);
        Check.due("BLOWN behind 4 DAYS: 6 at least", 960, x.dented(0));
        x.see(2, 0, false);
        Check.due("not behind 2: 7 at most", 192, x.dented(0));
        x.go(5);
        x.dent(0);
        x.find(5);
        Check.due("from the TEXT on, whatever was done since", 192, x.dented(0));
        x.note(0, 99, true);
        Check.due("NOTES are no SIGHTS", 192, x.dented(0));
        x.see(3, 0, true);
        Check.due("7 at least", 128, x.dented(0));
        x.strike(1);
        Check.due("without the second", 896, x.dented(0));
        x.known(1);
        Check.due("by the first alone", 960, x.dented(0));
        Check.due("of b none is so, as a is told", 0, x.dented(1));
        Check.due("no such tin", -1, x.dented(2));
        Check.due("tin below 0", -1, x.dented(-1));
        TinNation far = Check.nation("kind k 1 1;tin a k 0 59 0;tin b k 0 60 0;");
        far.see(60, 0, true);
        far.see(60, 1, false);
        far.see(59, 0, false);
        Check.due("as the DAYS are", 1023, far.dented(0));
        far.see(59, 0, true);
        Check.due("not so of any", 0, far.dented(0));
    }

    private static void dentedByOthers() {
        // b lies on a: a can be opened on DAY 2 only if b was BLOWN by then
        TinNation x = Check.nation("kind k 1 1;tin a k 0 20 0;tin b k 0 90 0;open a 2;law blow 100*(keeps=90);");
        x.see(21, 0, false);
        Check.due("b was BLOWN on DAY 0 or 1", 768, x.dented(1));
        Check.due("whatever a was", 0, x.dented(0));
    }

    private static void chance() {
        // 38 58 13 15 51 27 10 19 12 86 of the seed 1, one a DAY and a TIN: below 40 are all but three
        TinNation x = Check.nation("kind k 1 1;tin a k 9 99 0;rust 40;seed 5;");
        Check.due("one DAY, ten numbers one behind another", 7, x.chance(1, 1, 1));
        Check.due("none at least", 10, x.chance(1, 1, 0));
        Check.due("more than there are", 0, x.chance(1, 1, 2));
        Check.due("eight", 0, x.chance(1, 1, 8));
        TinNation two = Check.nation("kind k 1 1;tin a k 9 99 0;tin b k 9 99 0;rust 16;");
        // pairs: 38 58, 13 15, 51 27, 10 19, 12 86, then those of the next ten numbers
        int most = two.chance(1, 1, 1);
        Check.due("one at least of two", true, most >= 3 && most <= 8);
        TinNation keeps = Check.nation("kind k 1 1;tin a k 0 5 0;tin b k 0 7 0;");
        Check.due("by KEEPS, not yet", 0, keeps.chance(0, 5, 1));
        Check.due("by KEEPS", 10, keeps.chance(0, 6, 1));
        Check.due("two by KEEPS", 10, keeps.chance(2147483647, 8, 2));
        keeps.go(6);
        Check.due("those that are BLOWN count", 10, keeps.chance(0, 1, 1));
        Check.due("seed below 0", -1, x.chance(-1, 1, 1));
        Check.due("n 0", -1, x.chance(1, 0, 1));
        Check.due("n 100", -1, x.chance(1, 100, 1));
        Check.due("tins below 0", -1, x.chance(1, 1, -1));
        Check.due("tins 9", -1, x.chance(1, 1, 9));
        x.go(1);
        TinNation y = Check.nation("kind k 1 1;tin a k 9 99 0;rust 40;seed 5;");
        y.go(1);
        Check.due("chance leaves the numbers of the DAYS", y.tin(0, 1), x.tin(0, 1));
    }
}
