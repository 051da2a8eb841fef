import java.util.NoSuchElementException;
import java.util.Random;

/** Promises 1 to 38: runs of calls, the same for each seed, answered by TinNation as by the Model. */
public final class ModelTest {
    private static final String[] NAMES = {"dents", "keeps", "weight", "sound", "worth", "left", "day"};
    private static final String[] WORDS = {"kind", "tin", "open", "want", "keys", "rust", "seed", "law", "fresh",
        "glory", "blow", "or", "and", "not", "dents", "keeps", "weight", "sound", "worth", "left", "day", "a", "b",
        "abcdefg", "abcdef", "0", "1", "9", "10", "99", "100", "9999", "10000", "21", "101", "99999", "100000",
        ";", "(", ")", "+", "-", "*", "/", "<", "<=", "<>", ">", ">=", "=", "\n", "\t", "X", "\u00e9", "99999999999"};

    private final Random random;
    private final TinNation x = new TinNation();
    private final Model y = new Model();
    private final StringBuilder log = new StringBuilder();
    private int tins = 3;

    private ModelTest(long seed) {
        random = new Random(seed);
    }

    public static void main(String[] args) {
        int runs = args.length > 0 ? Integer.parseInt(args[0]) : 1500;
        int first = args.length > 1 ? Integer.parseInt(args[1]) : 0;
        int wrong = 0;
        for (int seed = first; seed < first + runs && wrong < 5; seed++) {
            ModelTest test = new ModelTest(seed);
            String fault = test.run();
            Check.due("seed " + seed + ": " + fault, true, fault == null);
            if (fault != null) {
                wrong++;
            }
        }
        Check.end("ModelTest");
    }

    private int below(int n) {
        return random.nextInt(n);
    }

    private boolean once(int in) {
        return below(in) == 0;
    }

    /** A number of 0 .. most, now and then one that is none such. */
    private int around(int most) {
        if (once(12)) {
            int[] odd = {-1, -2, most + 1, most + 2, Integer.MAX_VALUE, Integer.MIN_VALUE, 1000};
            return odd[below(odd.length)];
        }
        return below(most + 1);
    }

    // ---- texts

    private String name(int i) {
        return String.valueOf((char) ('a' + i)) + (i % 3 == 0 ? "" : i % 3 == 1 ? "xy" : "bcdef");
    }

    private String sum(int depth, int knots) {
        if (knots <= 1) {
            return once(3) ? String.valueOf(once(4) ? below(10000) : below(60)) : NAMES[below(NAMES.length)];
        }
        String[] signs = {"+", "-", "*", "/", "+", "-", "<", "<=", "=", "<>", ">", ">=", " and ", " or "};
        String sign = signs[below(signs.length)];
        int left = 1 + below(knots);
        String made = sum(depth + 1, left / 2) + sign + sum(depth + 1, knots - left);
        if (once(5)) {
            made = "not " + made;
        }
        return depth < 8 ? "(" + made + ")" : sum(depth, 1);
    }

    /** Laws whose value is mostly near what it is used for. */
    private String law(String rule) {
        String e = sum(0, 1 + below(once(4) ? 24 : 8));
        String[] near = {"50*(" + e + ")", "(" + e + ")/2+40", e, "dents*10+" + below(60), below(101) + "", "100*(day>" + below(9) + ")",
            "left+dents", "9-dents", "1/(day-" + below(4) + ")", "worth*3-dents*5", "9999*9999*9999*dents", "day*9"};
        return "law " + rule + " " + near[below(near.length)] + ";";
    }

    private String text() {
        StringBuilder text = new StringBuilder();
        int kinds = 1 + below(once(5) ? 6 : 3);
        tins = 1 + below(8);
        int stacks = 1 + below(4);
        int days = once(3) ? 100 : 4 + below(10);
        for (int i = 0; i < kinds; i++) {
            text.append("kind ").append(name(i)).append(' ').append(1 + below(99)).append(' ').append(below(10)).append(';');
        }
        boolean few = once(2);
        for (int i = 0; i < tins; i++) {
            text.append("tin ").append(name(i)).append(' ').append(name(below(kinds))).append(' ').append(below(10))
                    .append(' ').append(few ? 1 + below(4) * 7 : 1 + below(99)).append(' ').append(below(stacks)).append(';');
        }
        for (int i = below(11); i > 0; i--) {
            text.append("open ").append(name(below(tins))).append(' ').append(below(days)).append(';');
        }
        for (int i = below(9); i > 0; i--) {
            text.append("want ").append(name(below(kinds))).append(' ').append(below(days)).append(' ').append(1 + below(99)).append(';');
        }
        if (once(2)) {
            text.append("keys ").append(below(once(2) ? 21 : 4)).append(";");
        }
        if (once(2)) {
            text.append("rust ").append(once(4) ? below(2) * 100 : below(101)).append(";\n");
        }
        if (once(2)) {
            text.append("seed ").append(below(100000)).append(" ;");
        }
        for (String rule : new String[] {"fresh", "glory", "blow"}) {
            if (once(2)) {
                text.append(law(rule));
            }
        }
        return text.toString();
    }

    private String spoiled(String text) {
        StringBuilder spoiled = new StringBuilder(text);
        for (int i = 1 + below(3); i > 0; i--) {
            int at = below(spoiled.length() + 1);
            switch (below(6)) {
                case 0 -> spoiled.insert(at, WORDS[below(WORDS.length)]);
                case 1 -> spoiled.insert(at, " " + WORDS[below(WORDS.length)] + " ");
                case 2 -> spoiled.delete(at, Math.min(spoiled.length(), at + 1 + below(3)));
                case 3 -> spoiled.setLength(at);
                case 4 -> spoiled.insert(Math.max(0, spoiled.indexOf(";", at) + 1), line());
                default -> {
                    if (at < spoiled.length()) {
                        spoiled.setCharAt(at, (char) below(256));
                    }
                }
            }
        }
        return spoiled.toString();
    }

    private String line() {
        return switch (below(6)) {
            case 0 -> "kind " + name(below(9)) + " " + around(99) + " " + around(9) + ";";
            case 1 -> "tin " + name(below(9)) + " " + name(below(9)) + " " + around(9) + " " + around(99) + " " + around(3) + ";";
            case 2 -> "open " + name(below(9)) + " " + around(99) + ";";
            case 3 -> "want " + name(below(9)) + " " + around(99) + " " + around(99) + ";";
            case 4 -> WORDS[4 + below(3)] + " " + around(100) + ";";
            default -> law(WORDS[8 + below(3)]);
        };
    }

    /** Feeds both; a text that is too long loses its end. */
    private String tell() {
        String text = once(40) ? sum(0, 70) : text();
        if (once(3)) {
            text = spoiled(text);
        }
        if (once(30)) {
            text = "law fresh " + "not ".repeat(below(70)) + sum(0, below(20)) + ";";
        }
        if (once(30)) {
            text = "law blow " + "(".repeat(below(11)) + "1" + ")".repeat(below(11)) + ";";
        }
        text = text.substring(0, Math.min(700, text.length()));
        String padded = text + " ".repeat((20 - text.length() % 20) % 20);
        String fault = null;
        for (int i = 0; i < padded.length() && fault == null; i += 20) {
            int[] w = new int[5];
            for (int k = 0; k < 20; k++) {
                w[k / 4] = w[k / 4] << 8 | padded.charAt(i + k) & 255;
            }
            fault = same("feed", x.feed(w[0], w[1], w[2], w[3], w[4]), y.feed(w[0], w[1], w[2], w[3], w[4]));
        }
        int n = once(40) ? around(701) : text.length();
        log.append("  [").append(text).append("]\n");
        return fault != null ? fault : same("text(" + n + ")", x.text(n), y.text(n));
    }

    // ---- calls

    private String run() {
        String fault = tell();
        for (int i = 0; i < 400 && fault == null; i++) {
            fault = once(60) ? tell() : call();
        }
        return fault;
    }

    private String same(String call, long got, long due) {
        log.append("  ").append(call).append(" = ").append(due).append('\n');
        return got == due ? null : "\n" + log + "  but answered " + got;
    }

    private String tinSame(int tin, int what) {
        long got;
        long due;
        try {
            got = x.tin(tin, what);
        } catch (IndexOutOfBoundsException e) {
            got = -101;
        } catch (NoSuchElementException e) {
            got = -102;
        }
        try {
            due = y.tin(tin, what);
        } catch (IndexOutOfBoundsException e) {
            due = -101;
        } catch (NoSuchElementException e) {
            due = -102;
        }
        return same("tin(" + tin + ", " + what + ")", got, due);
    }

    private String call() {
        int tin = around(tins - 1);
        int stack = around(3);
        return switch (below(32)) {
            case 0, 1, 2 -> tinSame(tin, around(6));
            case 3 -> ofTold();
            case 4 -> same("open(" + tin + ")", x.open(tin), y.open(tin));
            case 5 -> same("put(" + tin + ", " + stack + ")", x.put(tin, stack) ? 1 : 0, y.put(tin, stack) ? 1 : 0);
            case 6 -> same("dent(" + tin + ")", x.dent(tin), y.dent(tin));
            case 7 -> {
                int n = around(9);
                yield same("find(" + n + ")", x.find(n), y.find(n));
            }
            case 8 -> {
                int n = once(4) ? around(99) : below(3);
                yield same("go(" + n + ")", x.go(n), y.go(n));
            }
            case 9 -> {
                int n = around(99);
                int what = around(4);
                yield same("ahead(" + n + ", " + what + ")", x.ahead(n, what), y.ahead(n, what));
            }
            case 10 -> same("above(" + tin + ")", x.above(tin), y.above(tin));
            case 11 -> {
                int what = around(4);
                yield same("order(" + what + ")", x.order(what), y.order(what));
            }
            case 12 -> {
                int what = around(1);
                yield same("best(" + tin + ", " + what + ")", x.best(tin, what), y.best(tin, what));
            }
            case 13 -> same("tidy(" + stack + ")", x.tidy(stack), y.tidy(stack));
            case 14 -> same("rests(" + tin + ")", x.rests(tin), y.rests(tin));
            case 15 -> {
                int k = around(12);
                yield same("rest(" + tin + ", " + k + ")", x.rest(tin, k), y.rest(tin, k));
            }
            case 16 -> {
                int n = around(6);
                int what = around(1);
                yield same("whole(" + n + ", " + what + ")", x.whole(n, what), y.whole(n, what));
            }
            case 17 -> same("unmet()", x.unmet(), y.unmet());
            case 18 -> once(3) ? same("blows(" + tin + ")", x.blows(tin), y.blows(tin)) : null;
            case 19, 20, 21, 22 -> note(tin);
            case 23 -> {
                int seed = once(9) ? -1 : below(Integer.MAX_VALUE);
                int n = around(99);
                int many = around(8);
                yield same("chance(" + seed + ", " + n + ", " + many + ")", x.chance(seed, n, many), y.chance(seed, n, many));
            }
            case 24 -> {
                int what = around(5);
                int i = what == 2 || once(9) ? tin : 0;
                int n = around(99);
                yield same("tried(" + what + ", " + i + ", " + n + ")", x.tried(what, i, n), y.tried(what, i, n));
            }
            case 25, 26 -> same("undo()", x.undo(), y.undo());
            case 27 -> once(3) ? same("keep()", x.keep(), y.keep()) : same("back()", x.back(), y.back());
            case 28 -> {
                int what = around(2);
                int want = around(8);
                yield same("law(" + what + ", " + tin + ", " + want + ")", x.law(what, tin, want), y.law(what, tin, want));
            }
            default -> {
                int what = around(15);
                yield same("count(" + what + ")", x.count(what), y.count(what));
            }
        };
    }

    private String ofTold() {
        int kind = around(5);
        int want = around(8);
        int what = around(3);
        int stack = around(3);
        int letters = once(5) ? random.nextInt() : Check.letters(name(below(9)));
        return switch (below(5)) {
            case 0 -> same("kind(" + kind + ", " + what + ")", x.kind(kind, what), y.kind(kind, what));
            case 1 -> same("want(" + want + ", " + what + ")", x.want(want, what), y.want(want, what));
            case 2 -> same("top(" + stack + ")", x.top(stack), y.top(stack));
            case 3 -> same("fault(" + what + ")", x.fault(what), y.fault(what));
            default -> same("named(" + what + ", " + letters + ")", x.named(what, letters), y.named(what, letters));
        };
    }

    private String note(int tin) {
        boolean is = once(2);
        switch (below(8)) {
            case 0: {
                int what = around(1);
                int much = what == 1 ? around(9) : around(99);
                return same("note(" + what + ", " + much + ", " + is + ")", x.note(what, much, is), y.note(what, much, is));
            }
            case 1: {
                int days = around(60);
                boolean blown = once(3);
                return same("see(" + days + ", " + tin + ", " + blown + ")", x.see(days, tin, blown), y.see(days, tin, blown));
            }
            case 2: {
                int told = around(Math.max(0, y.count(13) - 1));
                return same("strike(" + told + ")", x.strike(told), y.strike(told));
            }
            case 3: {
                int n = once(2) ? -1 : around(y.count(13));
                return same("known(" + n + ")", x.known(n) ? 1 : 0, y.known(n) ? 1 : 0);
            }
            case 4:
                return same("which()", x.which(), y.which());
            case 5: {
                int what = around(1);
                return same("ask(" + what + ")", x.ask(what), y.ask(what));
            }
            default:
                return same("dented(" + tin + ")", x.dented(tin), y.dented(tin));
        }
    }
}
