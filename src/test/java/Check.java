/** What the tests share: comparing answers, feeding texts, closing. */
final class Check {
    private static int passed;
    private static int failed;
    /** What is told ahead of each answer that is not the one due. */
    private static String about = "";

    private Check() {
    }

    static void about(String what) {
        about = what;
    }

    static int made() {
        return passed + failed;
    }

    static void due(String what, long want, long got) {
        if (want == got) {
            passed++;
        } else {
            failed++;
            System.out.println(about + what + " answered " + got + ", due is " + want);
        }
    }

    static void due(String what, boolean want, boolean got) {
        due(what, want ? 1 : 0, got ? 1 : 0);
    }

    /** A text without a FAULT. */
    static void good(String text, int lines, int knots) {
        TinNation x = new TinNation();
        due("lines of <" + text + ">", lines, tell(x, text));
        due("fault of <" + text + ">", 0, x.fault(0));
        due("place of <" + text + ">", -1, x.fault(1));
        due("knots of <" + text + ">", knots, x.count(3));
    }

    /** A text with a FAULT at a place. */
    static void bad(String text, int fault, int place) {
        TinNation x = new TinNation();
        due("text of <" + text + ">", -1, tell(x, text));
        due("fault of <" + text + ">", fault, x.fault(0));
        due("place of <" + text + ">", place, x.fault(1));
    }

    /** What tin() throws: 1 IndexOutOfBoundsException, 2 NoSuchElementException, 0 nothing. */
    static int thrown(TinNation x, int tin, int what) {
        try {
            x.tin(tin, what);
            return 0;
        } catch (IndexOutOfBoundsException e) {
            return 1;
        } catch (java.util.NoSuchElementException e) {
            return 2;
        }
    }

    /** Feeds a text, with blanks behind it up to twenty bytes, and has it read: what text() answers. */
    static int tell(TinNation x, String text) {
        feed(x, text);
        return x.text(text.length());
    }

    /** Feeds a text, with blanks behind it up to twenty bytes: what the last feed() answers. */
    static int feed(TinNation x, String text) {
        int has = 0;
        int[] words = words(text);
        for (int i = 0; i < words.length; i += 5) {
            has = x.feed(words[i], words[i + 1], words[i + 2], words[i + 3], words[i + 4]);
        }
        return has;
    }

    /** The numbers that bring a text, with blanks behind it up to twenty bytes. */
    static int[] words(String text) {
        String padded = text + " ".repeat((20 - text.length() % 20) % 20);
        int[] words = new int[padded.length() / 4];
        for (int i = 0; i < padded.length(); i++) {
            words[i / 4] = words[i / 4] << 8 | padded.charAt(i) & 255;
        }
        return words;
    }

    /** A new nation of a text that must be without a fault. */
    static TinNation nation(String text) {
        TinNation x = new TinNation();
        int lines = tell(x, text);
        if (lines < 0) {
            due("text of <" + text + "> with fault " + x.fault(0) + " at " + x.fault(1), 0, lines);
        }
        return x;
    }

    static int letters(String name) {
        int letters = 0;
        for (int i = 0; i < 6; i++) {
            letters = letters << 5 | (i < name.length() ? name.charAt(i) - 'a' + 1 : 0);
        }
        return letters;
    }

    static void end(String test) {
        System.out.println(test + ": " + passed + " passed, " + failed + " failed");
        if (failed != 0 || passed == 0) {
            System.exit(1);
        }
    }
}
