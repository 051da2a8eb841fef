/** What the tests share: comparing answers, feeding texts, closing. */
final class Check {
    private static int passed;
    private static int failed;

    private Check() {
    }

    static void due(String what, long want, long got) {
        if (want == got) {
            passed++;
        } else {
            failed++;
            System.out.println(what + " answered " + got + ", due is " + want);
        }
    }

    static void due(String what, boolean want, boolean got) {
        due(what, want ? 1 : 0, got ? 1 : 0);
    }

    /** Feeds a text, with blanks behind it up to twenty bytes, and has it read: what text() answers. */
    static int tell(TinNation x, String text) {
        StringBuilder bytes = new StringBuilder(text);
        while (bytes.length() % 20 != 0) {
            bytes.append(' ');
        }
        for (int i = 0; i < bytes.length(); i += 20) {
            x.feed(word(bytes, i), word(bytes, i + 4), word(bytes, i + 8), word(bytes, i + 12), word(bytes, i + 16));
        }
        return x.text(text.length());
    }

    private static int word(CharSequence bytes, int at) {
        return (bytes.charAt(at) & 255) << 24 | (bytes.charAt(at + 1) & 255) << 16
                | (bytes.charAt(at + 2) & 255) << 8 | bytes.charAt(at + 3) & 255;
    }

    /** A new nation of a text that must be without a fault. */
    static TinNation nation(String text) {
        TinNation x = new TinNation();
        int lines = tell(x, text);
        if (lines < 0) {
            due("text of <" + text + "> with fault " + x.fault(0) + " at " + x.fault(1), 0, lines);
        }
        return x;
    }

    static int letters(String name) {
        int letters = 0;
        for (int i = 0; i < 6; i++) {
            letters = letters << 5 | (i < name.length() ? name.charAt(i) - 'a' + 1 : 0);
        }
        return letters;
    }

    static void end(String test) {
        System.out.println(test + ": " + passed + " passed, " + failed + " failed");
        if (failed != 0 || passed == 0) {
            System.exit(1);
        }
    }
}
