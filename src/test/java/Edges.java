import java.io.IOException;
import java.math.BigInteger;
import java.nio.charset.StandardCharsets;
import java.nio.file.Files;
import java.nio.file.Path;
import java.util.BitSet;
import java.util.LinkedHashMap;
import java.util.Map;
import java.util.function.IntUnaryOperator;

/**
 * The document's own sentences. Each test of an edge names the passage that it holds to and quotes it; the
 * quotes together must leave nothing of the passages out, so that no sentence is without a test.
 */
final class Edges {
    private static final Path DOCUMENT = Path.of("../shared/DOC.md");
    private static final int PROMISES = 38;
    private static final Map<String, String> PASSAGES = passages();
    private static final Map<String, BitSet> QUOTED = new LinkedHashMap<>();
    private static String quote = "";
    private static int checksAhead;

    private Edges() {
    }

    static void promise(int number, String words) {
        says("Promise " + number, words);
    }

    static void whatItIs(String words) {
        says("What it is", words);
    }

    static void terms(String words) {
        says("Terms", words);
    }

    /** Of the passages '==== 2.', '==== 3.' and '==== 4.'. */
    static void passage(int number, String words) {
        says("==== " + number, words);
    }

    private static void says(String where, String words) {
        endSentence();
        quote = where + ", \"" + words + "\": ";
        Check.about(quote);
        checksAhead = Check.made();
        if (PASSAGES.isEmpty()) {
            return;
        }
        String passage = PASSAGES.getOrDefault(where, "");
        BitSet quoted = QUOTED.computeIfAbsent(where, key -> new BitSet());
        int at = passage.indexOf(words);
        if (at < 0) {
            Check.due("the document has these words", true, false);
            checksAhead++;
        }
        for (; at >= 0; at = passage.indexOf(words, at + 1)) {
            quoted.set(at, at + words.length());
        }
    }

    private static void endSentence() {
        if (!quote.isEmpty()) {
            Check.due("has a test", true, Check.made() > checksAhead);
        }
    }

    /** Every word of the passages must stand in a quote. */
    static void end() {
        endSentence();
        for (Map.Entry<String, String> passage : PASSAGES.entrySet()) {
            Check.about(passage.getKey() + ": ");
            StringBuilder left = new StringBuilder();
            BitSet quoted = QUOTED.getOrDefault(passage.getKey(), new BitSet());
            for (int i = 0; i < passage.getValue().length(); i++) {
                left.append(quoted.get(i) ? '\n' : passage.getValue().charAt(i));
            }
            for (String piece : left.toString().split("\n+")) {
                if (!piece.matches("[\\s.,;:]*")) {
                    Check.due("without a test is <" + piece.strip() + ">", true, false);
                }
            }
        }
        Check.about("");
    }

    // ---- the document

    private static Map<String, String> passages() {
        Map<String, String> found = new LinkedHashMap<>();
        if (!Files.exists(DOCUMENT)) {
            return found;
        }
        String all = document();
        found.put("What it is", between(all, "==== 1. ", " ## The public face"));
        String terms = between(all, "## Terms ", " ## Promise 1:");
        found.put("Terms", terms.substring(0, terms.indexOf("==== 2. ")));
        found.put("==== 2", between(terms, "==== 2. ", "==== 3. "));
        found.put("==== 3", between(terms, "==== 3. ", "==== 4. "));
        found.put("==== 4", terms.substring(terms.indexOf("==== 4. ") + 8));
        for (int i = 1; i <= PROMISES; i++) {
            String next = i < PROMISES ? " ## Promise " + (i + 1) + ":" : " ## Not promised";
            String section = between(all, "## Promise " + i + ": ", next);
            found.put("Promise " + i, section.substring(section.indexOf("`: ") + 3));
        }
        return found;
    }

    /** In one line, without the rows that open and close its blocks. */
    private static String document() {
        try {
            return Files.readString(DOCUMENT, StandardCharsets.UTF_8).replaceAll("(?m)^```.*$", " ").replaceAll("\\s+", " ");
        } catch (IOException e) {
            throw new IllegalStateException(e);
        }
    }

    private static String between(String all, String from, String upTo) {
        int start = all.indexOf(from) + from.length();
        return all.substring(start, all.indexOf(upTo, start));
    }

    // ---- texts at an edge

    /** A text that stands: as many LINES as it has ';'. */
    static void stands(String text) {
        TinNation x = new TinNation();
        Check.due("lines of <" + text + ">", text.replaceAll("[^;]", "").length(), Check.tell(x, text));
        Check.due("fault of <" + text + ">", 0, x.fault(0));
        Check.due("place of <" + text + ">", -1, x.fault(1));
    }

    /** A text with a FAULT, whose place is marked by ^. */
    static void fault(int fault, String marked) {
        int place = marked.indexOf('^');
        Check.bad(marked.substring(0, place) + marked.substring(place + 1), fault, place);
    }

    /** A number of a text: the least and the most stand; one before them, one behind and far ones are FAULT 2 at it. */
    static void range(String ahead, int least, int most, String behind) {
        for (int n : new int[] {least, least + 1, most - 1, most}) {
            stands(ahead + n + behind);
            stands(ahead + "0".repeat(20) + n + behind);
        }
        if (least > 0) {
            fault(2, ahead + "^" + (least - 1) + behind);
        }
        fault(1, ahead + "^-1" + behind);
        fault(2, ahead + "^" + (most + 1) + behind);
        // what would be the least again, if it went round
        for (int bits : new int[] {31, 32, 63, 64, 128}) {
            fault(2, ahead + "^" + BigInteger.ONE.shiftLeft(bits).add(BigInteger.valueOf(least)) + behind);
        }
    }

    /** So many LINES of a sort stand, and one less; the word of one more is FAULT 2, whatever comes behind it. */
    static void most(int most, String ahead, String word, String[] rests) {
        StringBuilder text = new StringBuilder(ahead);
        for (int i = 0; i < most; i++) {
            text.append(word).append(rests[i]);
            if (i >= most - 2) {
                stands(text.toString());
            }
        }
        fault(2, text + "^" + word + rests[most]);
        fault(2, text + "^" + word);
        fault(2, text + "^" + word + " !");
    }

    // ---- answers at an edge

    /** Answers of the numbers that are none such: below the least, behind the most, and far ones. */
    static void none(String call, long due, int least, int most, IntUnaryOperator answer) {
        int[] far = {least - 1, most + 1, least - 2, most + 2, Integer.MIN_VALUE, Integer.MAX_VALUE, most + 256, -most - 1};
        for (int n : far) {
            if (n < least || n > most) {
                Check.due(call + " of " + n, due, answer.applyAsInt(n));
            }
        }
    }

    /** So many numbers from a seed on, worked out by big ones. */
    static int[] numbers(long seed, int many) {
        int[] numbers = new int[many];
        BigInteger last = BigInteger.valueOf(seed);
        for (int i = 0; i < many; i++) {
            last = last.multiply(BigInteger.valueOf(1103515245)).add(BigInteger.valueOf(12345)).mod(BigInteger.TWO.pow(31));
            numbers[i] = last.divide(BigInteger.valueOf(65536)).intValue();
        }
        return numbers;
    }

    static int bit(boolean is) {
        return is ? 1 : 0;
    }
}
