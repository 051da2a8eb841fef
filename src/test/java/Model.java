import java.math.BigInteger;
import java.util.ArrayDeque;
import java.util.ArrayList;
import java.util.Arrays;
import java.util.HashMap;
import java.util.HashSet;
import java.util.List;
import java.util.Map;
import java.util.NoSuchElementException;
import java.util.Set;

/**
 * The document once more, written another way and as plainly as may be, whatever it costs: laws are
 * trees over big numbers, stacks are lists, states are copied whole, orders are tried one by one.
 * ModelTest sets it beside TinNation.
 */
final class Model {
    static final int NONE = -1;
    static final long MIN = Long.MIN_VALUE;
    static final Set<String> LANGUAGE = new HashSet<>(Arrays.asList("kind", "tin", "open", "want", "keys", "rust",
            "seed", "law", "fresh", "glory", "blow", "or", "and", "not", "dents", "keeps", "weight", "sound", "worth",
            "left", "day"));
    static final List<String> NAMES = Arrays.asList("dents", "keeps", "weight", "sound", "worth", "left", "day");

    // ---- what is told

    static final class Told {
        final List<String> kindNames = new ArrayList<>();
        final List<int[]> kinds = new ArrayList<>(); // weight, sound
        final List<String> tinNames = new ArrayList<>();
        final List<int[]> tins = new ArrayList<>(); // kind, dents, keeps, stack
        final List<int[]> opens = new ArrayList<>(); // tin, day
        final List<int[]> wants = new ArrayList<>(); // kind, day, worth
        final Map<String, Integer> numbers = new HashMap<>();
        final Map<String, Node> laws = new HashMap<>();
        int knots;
        int lines;

        int number(String of, int without) {
            return numbers.getOrDefault(of, without);
        }
    }

    // ---- tokens and faults

    static final class Fault extends RuntimeException {
        private static final long serialVersionUID = 1;
        final int kind;
        final int place;

        Fault(int kind, int place) {
            super(null, null, false, false);
            this.kind = kind;
            this.place = place;
        }
    }

    record Token(String text, int place) {
        boolean isWord() {
            return !text.isEmpty() && text.charAt(0) >= 'a' && text.charAt(0) <= 'z';
        }

        boolean isName() {
            return isWord() && text.length() <= 6 && !LANGUAGE.contains(text);
        }

        boolean isNumber() {
            return !text.isEmpty() && text.charAt(0) >= '0' && text.charAt(0) <= '9';
        }

        boolean isAny(String... of) {
            return Arrays.asList(of).contains(text);
        }
    }

    static List<Token> tokens(String text) {
        List<Token> found = new ArrayList<>();
        java.util.regex.Matcher m = java.util.regex.Pattern.compile("[a-z]+|[0-9]+|<=|<>|>=|[^ \n]", java.util.regex.Pattern.DOTALL).matcher(text);
        while (m.find()) {
            found.add(new Token(m.group(), m.start()));
        }
        found.add(new Token("", text.length()));
        return found;
    }

    static final class Grammar {
        final List<Token> tokens;
        int at;
        final Told told = new Told();

        Grammar(String text) {
            tokens = tokens(text);
        }

        Token peek() {
            return tokens.get(at);
        }

        Token take(boolean fits) {
            if (!fits) {
                throw new Fault(1, peek().place());
            }
            return tokens.get(at++);
        }

        Told read() {
            while (!peek().text().isEmpty()) {
                Token word = take(peek().isAny("kind", "tin", "open", "want", "keys", "rust", "seed", "law"));
                switch (word.text()) {
                    case "kind" -> {
                        limit(word, told.kinds.size(), 6);
                        String name = fresh(told.kindNames);
                        int[] kind = {number(1, 99), number(0, 9)};
                        told.kindNames.add(name);
                        told.kinds.add(kind);
                    }
                    case "tin" -> {
                        limit(word, told.tins.size(), 8);
                        String name = fresh(told.tinNames);
                        int[] tin = {known(told.kindNames), number(0, 9), number(1, 99), number(0, 3)};
                        told.tinNames.add(name);
                        told.tins.add(tin);
                    }
                    case "open" -> {
                        limit(word, told.opens.size(), 10);
                        told.opens.add(new int[] {known(told.tinNames), number(0, 99)});
                    }
                    case "want" -> {
                        limit(word, told.wants.size(), 8);
                        told.wants.add(new int[] {known(told.kindNames), number(0, 99), number(1, 99)});
                    }
                    case "law" -> {
                        Token rule = take(peek().isAny("fresh", "glory", "blow"));
                        if (told.laws.containsKey(rule.text())) {
                            throw new Fault(3, rule.place());
                        }
                        told.laws.put(rule.text(), e(0));
                    }
                    default -> {
                        if (told.numbers.containsKey(word.text())) {
                            throw new Fault(3, word.place());
                        }
                        told.numbers.put(word.text(), number(0, word.isAny("keys") ? 20 : word.isAny("rust") ? 100 : 99999));
                    }
                }
                take(peek().isAny(";"));
                told.lines++;
            }
            return told;
        }

        void limit(Token word, int has, int most) {
            if (has == most) {
                throw new Fault(2, word.place());
            }
        }

        String fresh(List<String> names) {
            Token name = take(peek().isName());
            if (names.contains(name.text())) {
                throw new Fault(3, name.place());
            }
            return name.text();
        }

        int known(List<String> names) {
            Token name = take(peek().isName());
            if (!names.contains(name.text())) {
                throw new Fault(4, name.place());
            }
            return names.indexOf(name.text());
        }

        int number(int least, int most) {
            Token number = take(peek().isNumber());
            BigInteger value = new BigInteger(number.text());
            if (value.compareTo(BigInteger.valueOf(least)) < 0 || value.compareTo(BigInteger.valueOf(most)) > 0) {
                throw new Fault(2, number.place());
            }
            return value.intValue();
        }

        Token knot() {
            if (++told.knots > 64) {
                throw new Fault(2, peek().place());
            }
            return tokens.get(at++);
        }

        Node e(int open) {
            Node left = a(open);
            while (peek().isAny("or")) {
                left = new Node(knot().text(), left, a(open));
            }
            return left;
        }

        Node a(int open) {
            Node left = b(open);
            while (peek().isAny("and")) {
                left = new Node(knot().text(), left, b(open));
            }
            return left;
        }

        Node b(int open) {
            if (peek().isAny("not")) {
                knot();
                return new Node("not", b(open), null);
            }
            Node left = s(open);
            if (peek().isAny("<", "<=", "=", "<>", ">=", ">")) {
                left = new Node(knot().text(), left, s(open));
            }
            return left;
        }

        Node s(int open) {
            Node left = t(open);
            while (peek().isAny("+", "-")) {
                left = new Node(knot().text(), left, t(open));
            }
            return left;
        }

        Node t(int open) {
            Node left = p(open);
            while (peek().isAny("*", "/")) {
                left = new Node(knot().text(), left, p(open));
            }
            return left;
        }

        Node p(int open) {
            Token token = peek();
            if (token.isNumber()) {
                if (new BigInteger(token.text()).compareTo(BigInteger.valueOf(9999)) > 0) {
                    throw new Fault(2, token.place());
                }
                return new Node(knot().text(), null, null);
            }
            if (NAMES.contains(token.text())) {
                return new Node(knot().text(), null, null);
            }
            take(token.isAny("("));
            if (open == 8) {
                throw new Fault(2, token.place());
            }
            Node inside = e(open + 1);
            take(peek().isAny(")"));
            return inside;
        }
    }

    record Node(String sign, Node left, Node right) {
        static final BigInteger MOST = BigInteger.TEN.pow(12);

        /** Null: an ERROR. */
        BigInteger value(Map<String, Integer> names) {
            if (left == null) {
                return names.containsKey(sign) ? BigInteger.valueOf(names.get(sign)) : new BigInteger(sign);
            }
            BigInteger a = left.value(names);
            BigInteger b = right == null ? BigInteger.ZERO : right.value(names);
            if (a == null || b == null) {
                return null;
            }
            boolean isA = a.signum() != 0;
            boolean isB = b.signum() != 0;
            int c = a.compareTo(b);
            BigInteger value = switch (sign) {
                case "not" -> bit(!isA);
                case "and" -> bit(isA && isB);
                case "or" -> bit(isA || isB);
                case "<" -> bit(c < 0);
                case "<=" -> bit(c <= 0);
                case "=" -> bit(c == 0);
                case "<>" -> bit(c != 0);
                case ">=" -> bit(c >= 0);
                case ">" -> bit(c > 0);
                case "+" -> a.add(b);
                case "-" -> a.subtract(b);
                case "*" -> a.multiply(b);
                default -> isB ? a.divide(b) : null;
            };
            return value == null || value.abs().compareTo(MOST) > 0 ? null : value;
        }

        static BigInteger bit(boolean is) {
            return is ? BigInteger.ONE : BigInteger.ZERO;
        }
    }

    // ---- how it stands

    static final class Now {
        Told told;
        String[] states; // closed, open, empty, blown
        int[] dents;
        int[] left;
        int[] served;
        String[] wants; // to come, met, missed
        List<List<Integer>> stacks = new ArrayList<>(); // from the bottom on
        int day;
        int keys;
        int glory;
        int refused;
        BigInteger number;

        static Now first(Told told) {
            Now s = new Now();
            s.told = told;
            int tins = told.tins.size();
            s.states = new String[tins];
            Arrays.fill(s.states, "closed");
            s.dents = new int[tins];
            s.left = new int[tins];
            s.served = new int[tins];
            s.wants = new String[told.wants.size()];
            Arrays.fill(s.wants, "to come");
            for (int i = 0; i < 4; i++) {
                s.stacks.add(new ArrayList<>());
            }
            for (int i = 0; i < tins; i++) {
                s.dents[i] = told.tins.get(i)[1];
                s.stacks.get(told.tins.get(i)[3]).add(i);
            }
            s.keys = told.number("keys", 20);
            s.number = BigInteger.valueOf(told.number("seed", 0));
            return s;
        }

        Now copy() {
            Now s = new Now();
            s.told = told;
            s.states = states.clone();
            s.dents = dents.clone();
            s.left = left.clone();
            s.served = served.clone();
            s.wants = wants.clone();
            for (List<Integer> stack : stacks) {
                s.stacks.add(new ArrayList<>(stack));
            }
            s.day = day;
            s.keys = keys;
            s.glory = glory;
            s.refused = refused;
            s.number = number;
            return s;
        }

        int tins() {
            return states.length;
        }

        boolean is(int tin, String state) {
            return states[tin].equals(state);
        }

        int many(String state) {
            return (int) Arrays.stream(states).filter(state::equals).count();
        }

        int manyWants(String state) {
            return (int) Arrays.stream(wants).filter(state::equals).count();
        }

        int stackOf(int tin) {
            for (int i = 0; i < 4; i++) {
                if (stacks.get(i).contains(tin)) {
                    return i;
                }
            }
            throw new IllegalStateException();
        }

        /** The closed ones of a stack, from the bottom on. */
        List<Integer> closed(int stack) {
            List<Integer> found = new ArrayList<>();
            for (int tin : stacks.get(stack)) {
                if (is(tin, "closed")) {
                    found.add(tin);
                }
            }
            return found;
        }

        int top(int stack) {
            List<Integer> closed = closed(stack);
            return closed.isEmpty() ? -2 : closed.get(closed.size() - 1);
        }

        boolean onTop(int tin) {
            return is(tin, "closed") && top(stackOf(tin)) == tin;
        }

        Long law(String rule, int tin, int want) {
            if (!told.laws.containsKey(rule)) {
                return null;
            }
            int[] kind = told.kinds.get(told.tins.get(tin)[0]);
            Map<String, Integer> names = new HashMap<>();
            names.put("dents", dents[tin]);
            names.put("keeps", told.tins.get(tin)[2]);
            names.put("weight", kind[0]);
            names.put("sound", kind[1]);
            names.put("worth", rule.equals("glory") ? told.wants.get(want)[2] : 0);
            names.put("left", is(tin, "open") ? left[tin] : 0);
            names.put("day", day);
            BigInteger value = told.laws.get(rule).value(names);
            return value == null ? null : value.longValue();
        }

        int law(String rule, int tin, int want, int least, int most, int without) {
            Long value = law(rule, tin, want);
            return value == null ? without : value < least ? least : value > most ? most : (int) (long) value;
        }

        void open(int tin) {
            states[tin] = "open";
            keys--;
            left[tin] = 0;
            left[tin] = law("fresh", tin, NONE, 1, 9, 3);
        }

        int draw() {
            number = number.multiply(BigInteger.valueOf(1103515245)).add(BigInteger.valueOf(12345))
                    .mod(BigInteger.TWO.pow(31));
            return number.divide(BigInteger.valueOf(65536)).intValue();
        }

        /** Way: "numbers", or what TRIED has, 0 .. 5; forced: opened ahead of (1), or NONE. */
        void day(String way, int i, int forced) {
            if (forced != NONE && is(forced, "closed") && keys > 0) {
                open(forced);
            }
            for (int[] open : told.opens) {
                if (open[1] == day && !(way.equals("2") && open[0] == i)) {
                    boolean may = way.equals("3") ? is(open[0], "closed") : onTop(open[0]);
                    if (may && keys > 0) {
                        open(open[0]);
                    } else {
                        refused++;
                    }
                }
            }
            Set<Integer> busy = new HashSet<>();
            for (int w = 0; w < wants.length; w++) {
                int[] want = told.wants.get(w);
                if (want[1] == day) {
                    wants[w] = "missed";
                    for (int tin = 0; tin < tins(); tin++) {
                        if (is(tin, "open") && told.tins.get(tin)[0] == want[0] && busy.add(tin)) {
                            wants[w] = "met";
                            served[tin]++;
                            glory += law("glory", tin, w, 0, 999, want[2]);
                            break;
                        }
                    }
                }
            }
            for (int tin = 0; tin < tins(); tin++) {
                if (is(tin, "open") && !way.equals("5") && --left[tin] == 0) {
                    states[tin] = "empty";
                }
            }
            for (int tin = 0; tin < tins(); tin++) {
                if (is(tin, "closed") && !way.equals("1")) {
                    int odds = law("blow", tin, NONE, 0, 100, told.number("rust", 0));
                    boolean rusts = odds >= 50;
                    if (way.equals("numbers") && odds != 0 && odds != 100) {
                        rusts = draw() % 100 < odds;
                    }
                    if (rusts && dents[tin] < 10) {
                        dents[tin]++;
                    }
                }
            }
            for (int tin = 0; tin < tins(); tin++) {
                if (is(tin, "closed") && (told.tins.get(tin)[2] <= day || dents[tin] > 9)) {
                    states[tin] = "blown";
                }
            }
            day++;
        }

        Now after(int n, String way, int i) {
            Now s = copy();
            for (int d = 0; d < n; d++) {
                s.day(way, i, NONE);
            }
            return s;
        }
    }

    // ---- the calls

    private final StringBuilder tape = new StringBuilder();
    private int fault;
    private int place = NONE;
    private Told told = new Told();
    private Now now = Now.first(told);
    private Now image;
    private final ArrayDeque<Now> undo = new ArrayDeque<>();
    private final List<Object[]> notes = new ArrayList<>();
    private int known = NONE;

    int feed(int a, int b, int c, int d, int e) {
        if (tape.length() + 20 > 700) {
            return NONE;
        }
        for (int word : new int[] {a, b, c, d, e}) {
            for (byte part : java.nio.ByteBuffer.allocate(4).putInt(word).array()) {
                tape.append((char) (part & 255));
            }
        }
        return tape.length();
    }

    int text(int n) {
        if (n < 0 || n > tape.length()) {
            return -2;
        }
        String text = tape.substring(0, n);
        tape.setLength(0);
        fault = 0;
        place = NONE;
        try {
            told = new Grammar(text).read();
        } catch (Fault f) {
            fault = f.kind;
            place = f.place;
            return NONE;
        }
        now = Now.first(told);
        image = null;
        undo.clear();
        notes.clear();
        known = NONE;
        return told.lines;
    }

    int fault(int what) {
        return what == 0 ? fault : what == 1 ? place : NONE;
    }

    int named(int what, int letters) {
        List<String> names = what == 0 ? told.kindNames : what == 1 ? told.tinNames : new ArrayList<>();
        for (String name : names) {
            if (Check.letters(name) == letters) {
                return names.indexOf(name);
            }
        }
        return NONE;
    }

    boolean isTin(int tin) {
        return tin >= 0 && tin < now.tins();
    }

    int tin(int tin, int what) {
        if (!isTin(tin)) {
            throw new IndexOutOfBoundsException();
        }
        int[] row = told.tins.get(tin);
        return switch (what) {
            case 0 -> row[0];
            case 1 -> now.dents[tin];
            case 2 -> row[2];
            case 3 -> now.stackOf(tin);
            case 4 -> Arrays.asList("closed", "open", "empty", "blown").indexOf(now.states[tin]);
            case 5 -> now.is(tin, "open") ? now.left[tin] : 0;
            case 6 -> now.served[tin];
            default -> throw new NoSuchElementException();
        };
    }

    int kind(int kind, int what) {
        if (kind < 0 || kind >= told.kinds.size() || what < 0 || what > 3) {
            return NONE;
        }
        if (what < 2) {
            return told.kinds.get(kind)[what];
        }
        int bits = 0;
        for (int tin = 0; tin < now.tins(); tin++) {
            if (told.tins.get(tin)[0] == kind && now.is(tin, what == 2 ? "closed" : "open")) {
                bits += 1 << tin;
            }
        }
        return bits;
    }

    int want(int want, int what) {
        if (want < 0 || want >= told.wants.size() || what < 0 || what > 3) {
            return NONE;
        }
        return what < 3 ? told.wants.get(want)[what] : Arrays.asList("to come", "met", "missed").indexOf(now.wants[want]);
    }

    int top(int stack) {
        return stack < 0 || stack > 3 ? NONE : now.top(stack);
    }

    long law(int what, int tin, int want) {
        if (what < 0 || what > 2 || !isTin(tin) || what == 1 && (want < 0 || want >= told.wants.size())) {
            return MIN;
        }
        Long value = now.law(new String[] {"fresh", "glory", "blow"}[what], tin, want);
        return value == null ? MIN : value;
    }

    private void remember() {
        undo.addLast(now.copy());
        if (undo.size() > 20) {
            undo.removeFirst();
        }
    }

    int open(int tin) {
        if (!isTin(tin)) {
            return NONE;
        }
        if (!now.onTop(tin) || now.keys == 0) {
            return -2;
        }
        remember();
        now.open(tin);
        return now.left[tin];
    }

    boolean put(int tin, int stack) {
        if (!isTin(tin) || stack < 0 || stack > 3 || !now.onTop(tin) || now.stackOf(tin) == stack) {
            return false;
        }
        remember();
        now.stacks.get(now.stackOf(tin)).remove((Integer) tin);
        now.stacks.get(stack).add(tin);
        return true;
    }

    int dent(int tin) {
        if (!isTin(tin) || !now.is(tin, "closed") || now.dents[tin] == 10) {
            return NONE;
        }
        remember();
        return ++now.dents[tin];
    }

    int find(int keys) {
        if (keys < 1 || keys > 9 || now.keys + keys > 99) {
            return NONE;
        }
        remember();
        now.keys += keys;
        return now.keys;
    }

    int go(int n) {
        if (n < 0 || n > 99 || now.day + n > 9900) {
            return NONE;
        }
        now = now.after(n, "numbers", NONE);
        if (n > 0) {
            undo.clear();
        }
        return now.day;
    }

    int ahead(int n, int what) {
        if (n < 0 || n > 99) {
            return NONE;
        }
        Now then = now.after(n, "0", NONE);
        return switch (what) {
            case 0 -> then.glory - now.glory;
            case 1 -> then.manyWants("met") - now.manyWants("met");
            case 2 -> then.manyWants("missed") - now.manyWants("missed");
            case 3 -> then.many("blown") - now.many("blown");
            case 4 -> then.keys;
            default -> NONE;
        };
    }

    int above(int tin) {
        if (!isTin(tin)) {
            return NONE;
        }
        if (!now.is(tin, "closed")) {
            return -2;
        }
        List<Integer> closed = now.closed(now.stackOf(tin));
        return closed.size() - 1 - closed.indexOf(tin);
    }

    private int gained(int n, Map<Integer, Integer> forced) {
        Now s = now.copy();
        for (int d = 0; d < n; d++) {
            s.day("0", NONE, forced.getOrDefault(d, NONE));
        }
        return s.glory - now.glory;
    }

    private void rows(List<Integer> row, List<Integer> of, List<List<Integer>> into) {
        if (row.size() == of.size()) {
            into.add(new ArrayList<>(row));
        }
        for (int tin : of) {
            if (!row.contains(tin)) {
                row.add(tin);
                rows(row, of, into);
                row.remove(row.size() - 1);
            }
        }
    }

    int order(int what) {
        if (what < 0 || what > 4) {
            return NONE;
        }
        List<Integer> closed = new ArrayList<>();
        for (int tin = 0; tin < now.tins() && closed.size() < 4; tin++) {
            if (now.is(tin, "closed")) {
                closed.add(tin);
            }
        }
        List<List<Integer>> rows = new ArrayList<>();
        rows(new ArrayList<>(), closed, rows);
        int most = NONE;
        List<Integer> best = null;
        for (List<Integer> row : rows) {
            Map<Integer, Integer> forced = new HashMap<>();
            for (int i = 0; i < row.size(); i++) {
                forced.put(i, row.get(i));
            }
            int glory = gained(20, forced);
            if (glory > most) {
                most = glory;
                best = row;
            }
        }
        return what == 4 ? most : what < best.size() ? best.get(what) : -2;
    }

    int best(int tin, int what) {
        if (!isTin(tin) || what < 0 || what > 1) {
            return NONE;
        }
        if (!now.is(tin, "closed")) {
            return -2;
        }
        int most = NONE;
        int best = NONE;
        for (int day = 0; day <= 20; day++) {
            int glory = gained(30, Map.of(day, tin));
            if (glory > most) {
                most = glory;
                best = day;
            }
        }
        return what == 0 ? best : most;
    }

    /** By breadth: each move takes one out and puts it on top. */
    int tidy(int stack) {
        if (stack < 0 || stack > 3) {
            return NONE;
        }
        List<List<Integer>> layer = new ArrayList<>();
        Set<List<Integer>> seen = new HashSet<>();
        List<Integer> keeps = new ArrayList<>();
        for (int tin : now.closed(stack)) {
            keeps.add(told.tins.get(tin)[2]);
        }
        layer.add(keeps);
        for (int moves = 0;; moves++) {
            List<List<Integer>> next = new ArrayList<>();
            for (List<Integer> lying : layer) {
                boolean tidy = true;
                for (int i = 1; i < lying.size(); i++) {
                    tidy &= lying.get(i) <= lying.get(i - 1);
                }
                if (tidy) {
                    return moves;
                }
                for (int i = 0; i < lying.size(); i++) {
                    List<Integer> other = new ArrayList<>(lying);
                    other.add(other.remove(i));
                    if (seen.add(other)) {
                        next.add(other);
                    }
                }
            }
            layer = next;
        }
    }

    private List<Integer> allRests(int tin) {
        int[][] has = new int[5][5];
        for (int a = 0; a < 5; a++) {
            for (int b = 0; b < 5; b++) {
                has[a][b] = (a + b <= now.left[tin] ? a : 0) - (a == 4 ? 1 : 0);
            }
        }
        List<Integer> rests = new ArrayList<>();
        for (int a = 0; a < 5; a++) {
            for (int b = 0; b < 5; b++) {
                boolean rest = true;
                for (int c = 0; c < 5; c++) {
                    rest &= has[c][b] <= has[a][b] && has[c][a] <= has[b][a];
                }
                if (rest) {
                    rests.add(10 * a + b);
                }
            }
        }
        return rests;
    }

    int rests(int tin) {
        return !isTin(tin) || !now.is(tin, "open") ? NONE : allRests(tin).size();
    }

    int rest(int tin, int k) {
        if (!isTin(tin) || !now.is(tin, "open") || k < 0) {
            return NONE;
        }
        List<Integer> all = allRests(tin);
        return k < all.size() ? all.get(k) : -2;
    }

    long whole(int n, int what) {
        if (n < 0 || n > 6 || what < 0 || what > 1) {
            return NONE;
        }
        BigInteger above = BigInteger.valueOf(100 - told.number("rust", 0)).pow(n);
        BigInteger below = BigInteger.valueOf(100).pow(n);
        BigInteger by = above.gcd(below);
        return (what == 0 ? above : below).divide(by).longValueExact();
    }

    int unmet() {
        int bits = 0;
        for (int w = 0; w < now.wants.length; w++) {
            if (now.wants[w].equals("to come") && kind(told.wants.get(w)[0], 2) + kind(told.wants.get(w)[0], 3) == 0) {
                bits += 1 << w;
            }
        }
        return bits;
    }

    int blows(int tin) {
        if (!isTin(tin)) {
            return NONE;
        }
        for (int n = 0; n <= 99; n++) {
            if (now.after(n, "0", NONE).is(tin, "blown")) {
                return n;
            }
        }
        return -2;
    }

    private int tell(Object... note) {
        if (notes.size() == 24) {
            return NONE;
        }
        notes.add(note);
        return notes.size() - 1;
    }

    int note(int what, int much, boolean atLeast) {
        if (what == 0 && much >= 0 && much <= 99 || what == 1 && much >= 0 && much <= 9) {
            return tell(what == 0 ? "weighs" : "sounds", much, atLeast);
        }
        return NONE;
    }

    int see(int days, int tin, boolean isBlown) {
        return days < 1 || days > 60 || !isTin(tin) ? NONE : tell("sight", days, isBlown, tin);
    }

    int strike(int told) {
        return told < 0 || told >= notes.size() ? NONE : tell("strike", told);
    }

    boolean known(int n) {
        if (n < -1 || n > notes.size()) {
            return false;
        }
        known = n;
        return true;
    }

    private int knownBy() {
        return known == NONE ? notes.size() : known;
    }

    private boolean isStruck(int i) {
        for (int j = i + 1; j < knownBy(); j++) {
            if (notes.get(j)[0].equals("strike") && notes.get(j)[1].equals(i) && !isStruck(j)) {
                return true;
            }
        }
        return false;
    }

    private List<Object[]> counted() {
        List<Object[]> found = new ArrayList<>();
        for (int i = 0; i < knownBy(); i++) {
            if (!isStruck(i)) {
                found.add(notes.get(i));
            }
        }
        return found;
    }

    int which() {
        int bits = 0;
        for (int k = 0; k < told.kinds.size(); k++) {
            boolean may = true;
            for (Object[] note : counted()) {
                if (note[0].equals("weighs") || note[0].equals("sounds")) {
                    int has = told.kinds.get(k)[note[0].equals("weighs") ? 0 : 1];
                    may &= (has >= (Integer) note[1]) == (Boolean) note[2];
                }
            }
            bits += may ? 1 << k : 0;
        }
        return bits;
    }

    int ask(int what) {
        int best = NONE;
        int fewest = 1000;
        for (int weight = 1; weight <= 99; weight++) {
            int yes = 0;
            int no = 0;
            for (int k = 0; k < told.kinds.size(); k++) {
                if ((which() >> k & 1) == 1) {
                    if (told.kinds.get(k)[0] >= weight) {
                        yes++;
                    } else {
                        no++;
                    }
                }
            }
            if (Math.max(yes, no) < fewest) {
                fewest = Math.max(yes, no);
                best = weight;
            }
        }
        return what == 0 ? best : what == 1 ? fewest : NONE;
    }

    int dented(int tin) {
        if (!isTin(tin)) {
            return NONE;
        }
        int bits = 0;
        for (int dents = 0; dents < 10; dents++) {
            Now first = Now.first(told);
            first.dents[tin] = dents;
            boolean so = true;
            for (Object[] note : counted()) {
                if (note[0].equals("sight")) {
                    so &= first.after((Integer) note[1], "0", NONE).is((Integer) note[3], "blown") == (Boolean) note[2];
                }
            }
            bits += so ? 1 << dents : 0;
        }
        return bits;
    }

    int chance(int seed, int n, int tins) {
        if (seed < 0 || n < 1 || n > 99 || tins < 0 || tins > 8) {
            return NONE;
        }
        BigInteger number = BigInteger.valueOf(seed);
        int times = 0;
        for (int i = 0; i < 10; i++) {
            Now s = now.copy();
            s.number = number;
            s = s.after(n, "numbers", NONE);
            number = s.number;
            times += s.many("blown") >= tins ? 1 : 0;
        }
        return times;
    }

    int tried(int what, int i, int n) {
        if (what < 0 || what > 5 || n < 0 || n > 99 || (what == 2 ? !isTin(i) : i != 0)) {
            return NONE;
        }
        Now s = now.copy();
        s.keys = what == 4 ? 20 : s.keys;
        return s.after(n, String.valueOf(what), i).glory - now.glory;
    }

    int undo() {
        if (undo.isEmpty()) {
            return NONE;
        }
        now = undo.removeLast();
        return undo.size();
    }

    int keep() {
        image = now.copy();
        return now.day;
    }

    int back() {
        if (image == null) {
            return NONE;
        }
        now = image.copy();
        undo.clear();
        return now.day;
    }

    int count(int what) {
        return switch (what) {
            case 0 -> told.kinds.size();
            case 1 -> told.tins.size();
            case 2 -> told.wants.size();
            case 3 -> told.knots;
            case 4 -> now.day;
            case 5 -> now.many("closed");
            case 6 -> now.many("open");
            case 7 -> now.many("blown");
            case 8 -> now.glory;
            case 9 -> now.manyWants("met");
            case 10 -> now.manyWants("missed");
            case 11 -> now.refused;
            case 12 -> now.keys;
            case 13 -> notes.size();
            case 14 -> knownBy();
            case 15 -> undo.size();
            default -> NONE;
        };
    }
}
