import java.util.NoSuchElementException;

/**
 * A nation put up in tins, as DOC.md tells it.
 *
 * <p>All rows are made with the object and used again, since no call may fill the room that the
 * calls of a run share: the one thing that a call makes is an exception of tin().
 */
public final class TinNation {
    public static final int NONE = -1;

    /** The other way to say no: those asked for are there, but it isn't so of them now. */
    private static final int NOT_SO = -2;

    private static final int MOST_BYTES = 700;
    private static final int MOST_KINDS = 6;
    private static final int MOST_TINS = 8;
    private static final int MOST_OPENS = 10;
    private static final int MOST_WANTS = 8;
    private static final int MOST_KNOTS = 64;
    private static final int MOST_BRACKETS = 8;
    private static final int MOST_LETTERS = 6;
    private static final int MOST_TOLD = 24;
    private static final int MOST_STEPS = 20;
    private static final int MOST_KEYS_TOLD = 20;
    private static final int MOST_KEYS = 99;
    private static final int MOST_DENTS = 10;
    private static final int MOST_DAYS = 99;
    private static final int LAST_DAY = 9900;
    private static final int STACKS = 4;
    private static final int HUNDRED = 100;

    private static final int ORDERED = 4;
    private static final int ORDER_DAYS = 20;
    private static final int BEST_DAYS = 30;
    private static final int LATEST_BEST = 20;
    private static final int MOST_ASKED = 4;
    private static final int DRAWS = 10;

    private static final int CLOSED = 0;
    private static final int OPENED = 1;
    private static final int EMPTY = 2;
    private static final int BLOWN = 3;

    private static final int TO_COME = 0;
    private static final int MET = 1;
    private static final int MISSED = 2;

    private static final int LAW_FRESH = 0;
    private static final int LAW_GLORY = 1;
    private static final int LAW_BLOW = 2;
    private static final int LAWS = 3;

    /** No value comes near it, so it stands for an ERROR and for a law that isn't told. */
    private static final long ERROR = Long.MIN_VALUE;

    private final byte[] tape = new byte[MOST_BYTES];
    private int taped;
    private final Parser parser = new Parser();
    private final Plan plan = new Plan();
    private final Days days = new Days(plan);
    private final State now = new State();
    private final State trial = new State();
    private final State image = new State();
    private boolean isKept;
    private final Told told = new Told();
    private final Steps steps = new Steps();
    private final int[] row = new int[ORDERED];
    private final int[] bestRow = new int[ORDERED];

    public TinNation() {
        now.begin(plan);
    }

    public int feed(int a, int b, int c, int d, int e) {
        if (taped + 20 > MOST_BYTES) {
            return NONE;
        }
        tapeNumber(a);
        tapeNumber(b);
        tapeNumber(c);
        tapeNumber(d);
        tapeNumber(e);
        return taped;
    }

    private void tapeNumber(int number) {
        for (int shift = 24; shift >= 0 && taped < MOST_BYTES; shift -= 8) {
            tape[taped] = (byte) (number >> shift);
            taped++;
        }
    }

    public int text(int n) {
        if (n < 0 || n > taped) {
            return NOT_SO;
        }
        taped = 0;
        parser.read(tape, n);
        if (parser.fault != 0) {
            return NONE;
        }
        plan.take(parser.plan);
        now.begin(plan);
        told.clear();
        steps.clear();
        isKept = false;
        return parser.lines;
    }

    public int fault(int what) {
        switch (what) {
            case 0:
                return parser.fault;
            case 1:
                return parser.place;
            default:
                return NONE;
        }
    }

    public int named(int what, int letters) {
        switch (what) {
            case 0:
                return plan.kinds.rowOf(letters);
            case 1:
                return plan.tins.rowOf(letters);
            default:
                return NONE;
        }
    }

    public int tin(int tin, int what) throws IndexOutOfBoundsException, NoSuchElementException {
        if (!now.has(tin)) {
            throw new IndexOutOfBoundsException("no such tin");
        }
        switch (what) {
            case 0:
                return plan.tins.at(tin, Plan.KIND);
            case 1:
                return now.dents[tin];
            case 2:
                return plan.tins.at(tin, Plan.KEEPS);
            case 3:
                return now.stack[tin];
            case 4:
                return now.status[tin];
            case 5:
                return now.fresh[tin];
            case 6:
                return now.served[tin];
            default:
                throw new NoSuchElementException("no such thing of a tin");
        }
    }

    public int kind(int kind, int what) {
        if (!plan.kinds.has(kind)) {
            return NONE;
        }
        switch (what) {
            case 0:
                return plan.kinds.at(kind, Plan.WEIGHT);
            case 1:
                return plan.kinds.at(kind, Plan.SOUND);
            case 2:
                return tinsOf(kind, CLOSED);
            case 3:
                return tinsOf(kind, OPENED);
            default:
                return NONE;
        }
    }

    private int tinsOf(int kind, int status) {
        int bits = 0;
        for (int tin = 0; tin < now.tins; tin++) {
            if (now.status[tin] == status && plan.tins.at(tin, Plan.KIND) == kind) {
                bits |= 1 << tin;
            }
        }
        return bits;
    }

    public int want(int want, int what) {
        if (!plan.wants.has(want)) {
            return NONE;
        }
        switch (what) {
            case 0:
                return plan.wants.at(want, Plan.WANT_KIND);
            case 1:
                return plan.wants.at(want, Plan.WANT_DAY);
            case 2:
                return plan.wants.at(want, Plan.WORTH);
            case 3:
                return now.wants[want];
            default:
                return NONE;
        }
    }

    public int top(int stack) {
        if (stack < 0 || stack >= STACKS) {
            return NONE;
        }
        for (int tin = 0; tin < now.tins; tin++) {
            if (now.stack[tin] == stack && now.isOnTop(tin)) {
                return tin;
            }
        }
        return NOT_SO;
    }

    public long law(int what, int tin, int want) {
        if (what < 0 || what >= LAWS || !now.has(tin)) {
            return ERROR;
        }
        if (what == LAW_GLORY && !plan.wants.has(want)) {
            return ERROR;
        }
        return plan.laws.work(what, days.namesOf(now, tin, what == LAW_GLORY ? want : NONE));
    }

    public int open(int tin) {
        if (!now.has(tin)) {
            return NONE;
        }
        if (!now.isOnTop(tin) || now.keys <= 0) {
            return NOT_SO;
        }
        days.unseal(now, tin);
        steps.add(Steps.OPENING, tin, 0, 0);
        return now.fresh[tin];
    }

    public boolean put(int tin, int stack) {
        if (!now.has(tin) || stack < 0 || stack >= STACKS) {
            return false;
        }
        if (!now.isOnTop(tin) || now.stack[tin] == stack) {
            return false;
        }
        steps.add(Steps.STACKING, tin, now.stack[tin], now.height[tin]);
        now.height[tin] = now.heightOver(stack);
        now.stack[tin] = stack;
        return true;
    }

    public int dent(int tin) {
        if (!now.isClosed(tin) || now.dents[tin] >= MOST_DENTS) {
            return NONE;
        }
        now.dents[tin]++;
        steps.add(Steps.DENT, tin, 0, 0);
        return now.dents[tin];
    }

    public int find(int keys) {
        if (keys < 1 || keys > 9 || now.keys + keys > MOST_KEYS) {
            return NONE;
        }
        now.keys += keys;
        steps.add(Steps.KEYS, keys, 0, 0);
        return now.keys;
    }

    public int go(int n) {
        if (n < 0 || n > MOST_DAYS || now.day + n > LAST_DAY) {
            return NONE;
        }
        days.byNumbers();
        for (int i = 0; i < n; i++) {
            days.pass(now);
        }
        if (n > 0) {
            steps.clear();
        }
        return now.day;
    }

    public int ahead(int n, int what) {
        if (n < 0 || n > MOST_DAYS) {
            return NONE;
        }
        if (what < 0 || what > 4) {
            return NONE;
        }
        days.asItGoes();
        trial.take(now);
        for (int i = 0; i < n; i++) {
            days.pass(trial);
        }
        switch (what) {
            case 0:
                return trial.glory - now.glory;
            case 1:
                return trial.met - now.met;
            case 2:
                return trial.missed - now.missed;
            case 3:
                return trial.howMany(BLOWN) - now.howMany(BLOWN);
            default:
                return trial.keys;
        }
    }

    public int above(int tin) {
        if (!now.has(tin)) {
            return NONE;
        }
        return now.isClosed(tin) ? now.closedAbove(tin) : NOT_SO;
    }

    public int order(int what) {
        if (what < 0 || what > ORDERED) {
            return NONE;
        }
        int many = firstClosed();
        int most = NONE;
        boolean isMore = true;
        days.asItGoes();
        // Four have 24 rows; the last of them ends the loop by itself.
        for (int i = 0; i < 24 && isMore; i++) {
            int glory = gainedInRow(many);
            if (glory > most) {
                most = glory;
                System.arraycopy(row, 0, bestRow, 0, ORDERED);
            }
            isMore = nextRow(many);
        }
        if (what == ORDERED) {
            return most;
        }
        return what < many ? bestRow[what] : NOT_SO;
    }

    /** Puts the first four that are CLOSED into the row, as they are numbered. */
    private int firstClosed() {
        int many = 0;
        for (int tin = 0; tin < now.tins && many < ORDERED; tin++) {
            if (now.isClosed(tin)) {
                row[many] = tin;
                many++;
            }
        }
        return many;
    }

    private int gainedInRow(int many) {
        trial.take(now);
        for (int i = 0; i < ORDER_DAYS && days.mayBringGlory(trial); i++) {
            if (i < many && i < ORDERED) {
                days.unsealAnyway(trial, row[i]);
            }
            days.pass(trial);
        }
        return trial.glory - now.glory;
    }

    /** Makes the row the next one by TINS; false if it was the last one. */
    private boolean nextRow(int many) {
        int at = Math.min(many, ORDERED) - 2;
        while (at >= 0 && row[at] > row[at + 1]) {
            at--;
        }
        if (at < 0) {
            return false;
        }
        int other = Math.min(many, ORDERED) - 1;
        while (other > at && row[other] < row[at]) {
            other--;
        }
        swapInRow(at, other);
        int low = at + 1;
        int high = Math.min(many, ORDERED) - 1;
        for (; low < high; low++) {
            swapInRow(low, high);
            high--;
        }
        return true;
    }

    private void swapInRow(int one, int other) {
        int kept = row[one];
        row[one] = row[other];
        row[other] = kept;
    }

    public int best(int tin, int what) {
        if (!now.has(tin) || what < 0 || what > 1) {
            return NONE;
        }
        if (!now.isClosed(tin)) {
            return NOT_SO;
        }
        int most = NONE;
        int bestDay = 0;
        days.asItGoes();
        for (int day = 0; day <= LATEST_BEST; day++) {
            int glory = gainedByOpening(tin, day);
            if (glory > most) {
                most = glory;
                bestDay = day;
            }
        }
        return what == 0 ? bestDay : most;
    }

    private int gainedByOpening(int tin, int day) {
        trial.take(now);
        for (int i = 0; i < BEST_DAYS && days.mayBringGlory(trial); i++) {
            if (i == day) {
                days.unsealAnyway(trial, tin);
            }
            days.pass(trial);
        }
        return trial.glory - now.glory;
    }

    public int tidy(int stack) {
        if (stack < 0 || stack >= STACKS) {
            return NONE;
        }
        int fewest = MOST_TINS;
        int many = 0;
        for (int tin = 0; tin < now.tins; tin++) {
            if (now.isClosed(tin) && now.stack[tin] == stack) {
                fewest = Math.min(fewest, takenOut(stack, plan.tins.at(tin, Plan.KEEPS)));
                many++;
            }
        }
        return Math.min(fewest, many);
    }

    /**
     * How many are taken out if the least KEEPS that stays is this one: all that keep less long, and
     * of those that keep just so long the ones below a longer one. Those that keep longer can't come
     * on top of it, so if they don't lie well as they are, it can't be: MOST_TINS.
     */
    private int takenOut(int stack, int least) {
        int taken = 0;
        for (int tin = 0; tin < now.tins; tin++) {
            if (now.isClosed(tin) && now.stack[tin] == stack) {
                int keeps = plan.tins.at(tin, Plan.KEEPS);
                if (keeps > least && isBelowLonger(tin)) {
                    return MOST_TINS;
                }
                if (keeps < least || isBelowLonger(tin)) {
                    taken++;
                }
            }
        }
        return taken;
    }

    private boolean isBelowLonger(int tin) {
        int[] keepsOf = plan.tins.column(Plan.KEEPS);
        for (int other = 0; other < now.tins && now.has(tin); other++) {
            boolean isAbove = now.stack[other] == now.stack[tin] && now.height[other] > now.height[tin];
            if (isAbove && now.isClosed(other) && keepsOf[other] > keepsOf[tin]) {
                return true;
            }
        }
        return false;
    }

    private static boolean isBit(int bits, int number) {
        return ((bits >> number) & 1) != 0;
    }

    public int rests(int tin) {
        if (!now.has(tin) || now.status[tin] != OPENED) {
            return NONE;
        }
        int many = 0;
        for (int first = 0; first <= MOST_ASKED; first++) {
            for (int second = 0; second <= MOST_ASKED; second++) {
                if (isRest(first, second, now.fresh[tin])) {
                    many++;
                }
            }
        }
        return many;
    }

    public int rest(int tin, int k) {
        if (!now.has(tin) || now.status[tin] != OPENED || k < 0) {
            return NONE;
        }
        int many = 0;
        for (int first = 0; first <= MOST_ASKED; first++) {
            for (int second = 0; second <= MOST_ASKED; second++) {
                if (isRest(first, second, now.fresh[tin])) {
                    if (many == k) {
                        return 10 * first + second;
                    }
                    many++;
                }
            }
        }
        return NOT_SO;
    }

    private static boolean isRest(int first, int second, int fresh) {
        for (int other = 0; other <= MOST_ASKED; other++) {
            if (hasOfShare(other, second, fresh) > hasOfShare(first, second, fresh)
                    || hasOfShare(other, first, fresh) > hasOfShare(second, first, fresh)) {
                return false;
            }
        }
        return true;
    }

    private static int hasOfShare(int own, int others, int fresh) {
        int has = own + others <= fresh ? own : 0;
        return own == MOST_ASKED ? has - 1 : has;
    }

    public long whole(int n, int what) {
        if (n < 0 || n > 6 || what < 0 || what > 1) {
            return NONE;
        }
        long above = 1;
        long below = 1;
        for (int i = 0; i < n; i++) {
            above *= HUNDRED - plan.rust;
            below *= HUNDRED;
        }
        long divisor = commonDivisor(above, below);
        if (divisor <= 0) {
            return NONE;
        }
        return what == 0 ? above / divisor : below / divisor;
    }

    private static long commonDivisor(long one, long other) {
        long a = one;
        long b = other;
        // Every second step halves it at least, so 64 bits need no more than 128 steps.
        for (int i = 0; i < 128 && b != 0; i++) {
            long left = a % b;
            a = b;
            b = left;
        }
        return a;
    }

    public int unmet() {
        int bits = 0;
        for (int want = 0; want < plan.wants.size && want < MOST_WANTS; want++) {
            int kind = plan.wants.at(want, Plan.WANT_KIND);
            if (now.wants[want] == TO_COME && (tinsOf(kind, CLOSED) | tinsOf(kind, OPENED)) == 0) {
                bits |= 1 << want;
            }
        }
        return bits;
    }

    public int blows(int tin) {
        if (!now.has(tin)) {
            return NONE;
        }
        days.asItGoes();
        trial.take(now);
        for (int i = 0; i < MOST_DAYS && trial.isClosed(tin); i++) {
            days.pass(trial);
        }
        return trial.status[tin] == BLOWN ? trial.day - now.day : NOT_SO;
    }

    public int note(int what, int much, boolean atLeast) {
        if (what < 0 || what > 1 || much < 0 || much > (what == 0 ? 99 : 9)) {
            return NONE;
        }
        return told.add(what == 0 ? Told.WEIGHS : Told.SOUNDS, much, 0, atLeast);
    }

    public int see(int days, int tin, boolean isBlown) {
        if (days < 1 || days > Told.MOST_SEEN || !now.has(tin)) {
            return NONE;
        }
        return told.add(Told.SIGHT, days, tin, isBlown);
    }

    public int strike(int told) {
        if (!this.told.rows.has(told)) {
            return NONE;
        }
        return this.told.add(Told.STRIKE, told, 0, true);
    }

    public boolean known(int n) {
        if (n < NONE || n > told.rows.size) {
            return false;
        }
        told.knownBy = n;
        return true;
    }

    public int which() {
        int bits = 0;
        int counted = told.counted();
        for (int kind = 0; kind < plan.kinds.size; kind++) {
            int weight = plan.kinds.at(kind, Plan.WEIGHT);
            int sound = plan.kinds.at(kind, Plan.SOUND);
            if (told.mayBe(counted, weight, sound)) {
                bits |= 1 << kind;
            }
        }
        return bits;
    }

    public int ask(int what) {
        if (what < 0 || what > 1) {
            return NONE;
        }
        int kinds = which();
        int fewest = Integer.MAX_VALUE;
        int best = 0;
        for (int weight = 1; weight <= 99; weight++) {
            int heavy = 0;
            for (int kind = 0; kind < plan.kinds.size; kind++) {
                if (isBit(kinds, kind) && plan.kinds.at(kind, Plan.WEIGHT) >= weight) {
                    heavy++;
                }
            }
            int left = Math.max(heavy, Integer.bitCount(kinds) - heavy);
            if (left < fewest) {
                fewest = left;
                best = weight;
            }
        }
        return what == 0 ? best : fewest;
    }

    public int dented(int tin) {
        if (!now.has(tin)) {
            return NONE;
        }
        int bits = 0;
        int counted = told.counted();
        days.asItGoes();
        for (int dents = 0; dents <= 9; dents++) {
            trial.begin(plan);
            trial.dents[tin] = dents;
            if (isSeenSo(counted)) {
                bits |= 1 << dents;
            }
        }
        return bits;
    }

    private boolean isSeenSo(int counted) {
        int last = told.lastSeen(counted);
        for (int day = 1; day <= last; day++) {
            days.pass(trial);
            if (!told.isSeenSo(counted, day, trial)) {
                return false;
            }
        }
        return true;
    }

    public int chance(int seed, int n, int tins) {
        if (seed < 0 || n < 1 || n > MOST_DAYS) {
            return NONE;
        }
        if (tins < 0 || tins > MOST_TINS) {
            return NONE;
        }
        long number = seed;
        int times = 0;
        days.byNumbers();
        for (int i = 0; i < DRAWS; i++) {
            trial.take(now);
            trial.number = number;
            for (int day = 0; day < n; day++) {
                days.pass(trial);
            }
            number = trial.number;
            if (trial.howMany(BLOWN) >= tins) {
                times++;
            }
        }
        return times;
    }

    public int tried(int what, int i, int n) {
        if (what < Days.AS_IT_GOES || what > Days.NOTHING_GOES_OFF || n < 0 || n > MOST_DAYS) {
            return NONE;
        }
        if (what == Days.NEVER_OPENED ? !now.has(i) : i != 0) {
            return NONE;
        }
        days.otherwise(what, i);
        trial.take(now);
        if (what == Days.MANY_KEYS) {
            trial.keys = MOST_KEYS_TOLD;
        }
        for (int day = 0; day < n && days.mayBringGlory(trial); day++) {
            days.pass(trial);
        }
        return trial.glory - now.glory;
    }

    public int undo() {
        if (steps.rows.size == 0) {
            return NONE;
        }
        steps.takeBack(now);
        return steps.rows.size;
    }

    public int keep() {
        image.take(now);
        isKept = true;
        return now.day;
    }

    public int back() {
        if (!isKept) {
            return NONE;
        }
        now.take(image);
        steps.clear();
        return now.day;
    }

    public int count(int what) {
        switch (what) {
            case 0:
                return plan.kinds.size;
            case 1:
                return plan.tins.size;
            case 2:
                return plan.wants.size;
            case 3:
                return plan.laws.knots;
            case 4:
                return now.day;
            case 5:
                return now.howMany(CLOSED);
            case 6:
                return now.howMany(OPENED);
            case 7:
                return now.howMany(BLOWN);
            case 8:
                return now.glory;
            case 9:
                return now.met;
            case 10:
                return now.missed;
            case 11:
                return now.refused;
            case 12:
                return now.keys;
            case 13:
                return told.rows.size;
            case 14:
                return told.howManyKnown();
            case 15:
                return steps.rows.size;
            default:
                return NONE;
        }
    }

    /** Rows of numbers, as many as the document allows, held by columns. */
    private static final class Rows {
        private final int most;
        private final int[][] columns;
        int size;

        Rows(int most, int width) {
            this.most = most;
            this.columns = new int[width][most];
        }

        boolean isFull() {
            return size >= most;
        }

        boolean has(int row) {
            return row >= 0 && row < size;
        }

        /** A column whole, for loops over the rows: the DAYS run through them too often for at(). */
        int[] column(int column) {
            return columns[column >= 0 && column < columns.length ? column : 0];
        }

        int at(int row, int column) {
            return has(row) ? column(column)[row] : 0;
        }

        /** Adds a row, which set() fills; none, if there is no room. */
        void add() {
            if (!isFull()) {
                size++;
            }
        }

        /** Sets a number of the last row. */
        void set(int column, int value) {
            if (size > 0) {
                column(column)[size - 1] = value;
            }
        }

        /** The row whose first number it is; NONE without. */
        int rowOf(int first) {
            int[] firsts = column(0);
            for (int row = 0; row < size; row++) {
                if (firsts[row] == first) {
                    return row;
                }
            }
            return NONE;
        }

        void dropFirst() {
            if (size > 0) {
                size--;
                for (int[] column : columns) {
                    System.arraycopy(column, 1, column, 0, size);
                }
            }
        }

        void take(Rows other) {
            size = Math.min(most, other.size);
            for (int i = 0; i < columns.length; i++) {
                System.arraycopy(other.column(i), 0, columns[i], 0, size);
            }
        }
    }

    /** What the TEXT tells. */
    private static final class Plan {
        static final int NAME = 0;
        static final int WEIGHT = 1;
        static final int SOUND = 2;
        static final int KIND = 1;
        static final int DENTS = 2;
        static final int KEEPS = 3;
        static final int STACK = 4;
        static final int OPEN_TIN = 0;
        static final int OPEN_DAY = 1;
        static final int WANT_KIND = 0;
        static final int WANT_DAY = 1;
        static final int WORTH = 2;

        final Rows kinds = new Rows(MOST_KINDS, 3);
        final Rows tins = new Rows(MOST_TINS, 5);
        final Rows opens = new Rows(MOST_OPENS, 2);
        final Rows wants = new Rows(MOST_WANTS, 3);
        final Laws laws = new Laws();
        int keys = MOST_KEYS_TOLD;
        int rust;
        int seed;
        /** The last DAYS of open and of WANTS; NONE without. */
        int lastOpenDay = NONE;
        int lastWantDay = NONE;

        void clear() {
            kinds.size = 0;
            tins.size = 0;
            opens.size = 0;
            wants.size = 0;
            laws.clear();
            keys = MOST_KEYS_TOLD;
            rust = 0;
            seed = 0;
            lastOpenDay = NONE;
            lastWantDay = NONE;
        }

        void take(Plan other) {
            kinds.take(other.kinds);
            tins.take(other.tins);
            opens.take(other.opens);
            wants.take(other.wants);
            laws.take(other.laws);
            keys = other.keys;
            rust = other.rust;
            seed = other.seed;
            lastOpenDay = other.lastOpenDay;
            lastWantDay = other.lastWantDay;
        }
    }

    /**
     * The E of all laws, each with its signs behind what they join: a number as it is, all else as
     * its token below 0.
     */
    private static final class Laws {
        private static final long MOST = 1_000_000_000_000L;

        private final int[] code = new int[MOST_KNOTS];
        private final int[] from = new int[LAWS];
        private final int[] upTo = new int[LAWS];
        private final long[] pile = new long[MOST_KNOTS];
        private int size;
        /** Bits of the laws that are told. */
        private int told;
        int knots;

        void clear() {
            size = 0;
            knots = 0;
            told = 0;
        }

        void take(Laws other) {
            System.arraycopy(other.code, 0, code, 0, MOST_KNOTS);
            System.arraycopy(other.from, 0, from, 0, LAWS);
            System.arraycopy(other.upTo, 0, upTo, 0, LAWS);
            size = other.size;
            told = other.told;
            knots = other.knots;
        }

        boolean has(int law) {
            return law >= 0 && law < LAWS && isBit(told, law);
        }

        void begin(int law) {
            if (law >= 0 && law < LAWS) {
                told |= 1 << law;
                from[law] = size;
                upTo[law] = size;
            }
        }

        void end(int law) {
            if (law >= 0 && law < LAWS) {
                upTo[law] = size;
            }
        }

        void emit(int knot) {
            if (size < MOST_KNOTS) {
                code[size] = knot;
                size++;
            }
        }

        long work(int law, int[] names) {
            if (!has(law) || names.length <= Scanner.DAY - Scanner.DENTS) {
                return ERROR;
            }
            int high = 0;
            // Each turn puts one on the pile at most, so it never has more than there are KNOTS.
            for (int i = from[law]; i < upTo[law] && i < MOST_KNOTS && high < MOST_KNOTS; i++) {
                int token = -code[i];
                if (token <= 0) {
                    pile[high] = -token;
                    high++;
                } else if (token >= Scanner.DENTS && token <= Scanner.DAY) {
                    pile[high] = names[token - Scanner.DENTS];
                    high++;
                } else if (token == Scanner.NOT && high >= 1) {
                    pile[high - 1] = pile[high - 1] == 0 ? 1 : 0;
                } else if (high >= 2) {
                    high--;
                    pile[high - 1] = joined(token, pile[high - 1], pile[high]);
                    if (pile[high - 1] > MOST || pile[high - 1] < -MOST) {
                        return ERROR;
                    }
                }
            }
            return high == 1 ? pile[0] : ERROR;
        }

        private static long joined(int sign, long left, long right) {
            switch (sign) {
                case Scanner.OR:
                    return left != 0 || right != 0 ? 1 : 0;
                case Scanner.AND:
                    return left != 0 && right != 0 ? 1 : 0;
                case Scanner.LESS:
                    return left < right ? 1 : 0;
                case Scanner.AT_MOST:
                    return left <= right ? 1 : 0;
                case Scanner.SAME:
                    return left == right ? 1 : 0;
                case Scanner.OTHER:
                    return left != right ? 1 : 0;
                case Scanner.AT_LEAST:
                    return left >= right ? 1 : 0;
                case Scanner.MORE:
                    return left > right ? 1 : 0;
                case Scanner.PLUS:
                    return left + right;
                case Scanner.MINUS:
                    return left - right;
                case Scanner.TIMES:
                    // Two values of 10 to the 12 would wrap around in a long, so it is looked at before.
                    long most = left == 0 ? MOST : MOST / (left < 0 ? -left : left);
                    return right > most || right < -most ? ERROR : left * right;
                case Scanner.OVER:
                    return right == 0 ? ERROR : left / right;
                default:
                    return ERROR;
            }
        }
    }

    /** Cuts a TEXT into its tokens: words of the language by their place in WORDS, signs by their byte. */
    private static final class Scanner {
        static final int BAD = -1;
        static final int END = 0;
        static final int KIND = 1;
        static final int TIN = 2;
        static final int OPEN = 3;
        static final int WANT = 4;
        static final int KEYS = 5;
        static final int RUST = 6;
        static final int SEED = 7;
        static final int LAW = 8;
        static final int FRESH = 9;
        static final int DENTS = 12;
        static final int DAY = 18;
        static final int NOT = 19;
        static final int AND = 20;
        static final int OR = 21;
        static final int NAME = 22;
        static final int NUMBER = 23;
        static final int BRACKET = 40;
        static final int BRACKET_END = 41;
        static final int TIMES = 42;
        static final int PLUS = 43;
        static final int MINUS = 45;
        static final int OVER = 47;
        static final int STOP = 59;
        static final int LESS = 60;
        static final int SAME = 61;
        static final int MORE = 62;
        static final int AT_MOST = 256;
        static final int AT_LEAST = 257;
        static final int OTHER = 258;

        private static final String WORDS =
                "kind  tin   open  want  keys  rust  seed  law   fresh glory blow  dents keeps weightsound worth left  day   not   and   or    ";
        private static final int WORD_COUNT = 21;
        private static final String SIGNS = "()*+-/;<=>";

        /** Above every number that may stand in a TEXT, and small enough to be counted on from. */
        private static final int TOO_MUCH = 1_000_000;

        private final int[] words = new int[WORD_COUNT];
        private byte[] tape = new byte[0];
        private int length;
        private int at;
        int token;
        int place;
        /** A NUMBER's value, or a word's letters as named() has them. */
        int value;

        Scanner() {
            for (int word = 0; word < WORD_COUNT; word++) {
                int letters = 0;
                for (int i = 0; i < MOST_LETTERS; i++) {
                    char letter = WORDS.charAt(word * MOST_LETTERS + i);
                    letters = (letters << 5) | (letter == ' ' ? 0 : letter - 'a' + 1);
                }
                words[word] = letters;
            }
        }

        void start(byte[] tape, int length) {
            this.tape = tape;
            this.length = Math.min(length, tape.length);
            this.at = 0;
            this.token = END;
        }

        /** Goes on to the next token; behind a BAD one nothing is read any more. */
        void advance() {
            if (token == BAD) {
                return;
            }
            while (at < length && (tape[at] == 10 || tape[at] == 32)) {
                at++;
            }
            place = at;
            int sign = at < length ? tape[at] : 0;
            if (at >= length) {
                token = END;
            } else if (sign >= 'a' && sign <= 'z') {
                takeWord();
            } else if (sign >= '0' && sign <= '9') {
                takeNumber();
            } else {
                takeSign();
            }
        }

        private void takeWord() {
            value = 0;
            int letters = 0;
            for (; at < length && tape[at] >= 'a' && tape[at] <= 'z'; at++) {
                if (letters < MOST_LETTERS) {
                    value |= (tape[at] - 'a' + 1) << (25 - 5 * letters);
                }
                letters++;
            }
            token = letters > MOST_LETTERS ? BAD : NAME;
            for (int word = 0; word < WORD_COUNT && token == NAME; word++) {
                if (words[word] == value) {
                    token = word + 1;
                }
            }
        }

        private void takeNumber() {
            value = 0;
            for (; at < length && tape[at] >= '0' && tape[at] <= '9'; at++) {
                value = Math.min(TOO_MUCH, value * 10 + tape[at] - '0');
            }
            token = NUMBER;
        }

        private void takeSign() {
            int sign = at < length ? tape[at] : 0;
            int next = at + 1 < length ? tape[at + 1] : 0;
            token = sign > 0 && SIGNS.indexOf((char) sign) >= 0 ? sign : BAD;
            if (sign == LESS && next == SAME) {
                token = AT_MOST;
            } else if (sign == MORE && next == SAME) {
                token = AT_LEAST;
            } else if (sign == LESS && next == MORE) {
                token = OTHER;
            }
            at += token >= AT_MOST ? 2 : 1;
        }
    }

    /** Reads a TEXT into a plan of its own, so that a FAULT leaves all as it was. */
    private static final class Parser {
        private static final int WRONG_TOKEN = 1;
        private static final int TOO_MUCH = 2;
        private static final int TOLD_ALREADY = 3;
        private static final int NOT_TOLD = 4;

        private static final int MOST_OF_E = 9999;
        private static final int MOST_SEED = 99999;

        final Plan plan = new Plan();
        private final Scanner scanner = new Scanner();
        /** Bits of the LINES that may come but once. */
        private int toldOnce;
        int fault;
        int place = NONE;
        int lines;

        void read(byte[] tape, int length) {
            plan.clear();
            toldOnce = 0;
            fault = 0;
            place = NONE;
            lines = 0;
            scanner.start(tape, length);
            scanner.advance();
            // A LINE has a byte at least.
            for (int i = 0; i < length && fault == 0 && scanner.token != Scanner.END; i++) {
                line();
                expect(Scanner.STOP);
                lines++;
            }
        }

        /**
         * Behind a FAULT the token stays BAD, whoever goes on, and fits nowhere: reading ends by itself,
         * and what comes into the plan till then is never used.
         */
        private void fail(int number) {
            if (fault == 0) {
                fault = number;
                place = scanner.place;
            }
            scanner.token = Scanner.BAD;
        }

        private void expect(int token) {
            if (scanner.token != token) {
                fail(WRONG_TOKEN);
            }
            scanner.advance();
        }

        private void line() {
            switch (scanner.token) {
                case Scanner.KIND:
                    kindLine();
                    break;
                case Scanner.TIN:
                    tinLine();
                    break;
                case Scanner.OPEN:
                    openLine();
                    break;
                case Scanner.WANT:
                    wantLine();
                    break;
                case Scanner.KEYS:
                    plan.keys = onceLine(MOST_KEYS_TOLD);
                    break;
                case Scanner.RUST:
                    plan.rust = onceLine(HUNDRED);
                    break;
                case Scanner.SEED:
                    plan.seed = onceLine(MOST_SEED);
                    break;
                case Scanner.LAW:
                    lawLine();
                    break;
                default:
                    fail(WRONG_TOKEN);
            }
        }

        private void kindLine() {
            room(plan.kinds);
            int name = newName(plan.kinds);
            int weight = number(1, 99);
            int sound = number(0, 9);
            plan.kinds.add();
            plan.kinds.set(Plan.NAME, name);
            plan.kinds.set(Plan.WEIGHT, weight);
            plan.kinds.set(Plan.SOUND, sound);
        }

        private void tinLine() {
            room(plan.tins);
            int name = newName(plan.tins);
            int kind = toldName(plan.kinds);
            int dents = number(0, 9);
            int keeps = number(1, 99);
            int stack = number(0, STACKS - 1);
            plan.tins.add();
            plan.tins.set(Plan.NAME, name);
            plan.tins.set(Plan.KIND, kind);
            plan.tins.set(Plan.DENTS, dents);
            plan.tins.set(Plan.KEEPS, keeps);
            plan.tins.set(Plan.STACK, stack);
        }

        private void openLine() {
            room(plan.opens);
            int tin = toldName(plan.tins);
            int day = number(0, 99);
            plan.opens.add();
            plan.opens.set(Plan.OPEN_TIN, tin);
            plan.opens.set(Plan.OPEN_DAY, day);
            plan.lastOpenDay = Math.max(plan.lastOpenDay, day);
        }

        private void wantLine() {
            room(plan.wants);
            int kind = toldName(plan.kinds);
            int day = number(0, 99);
            int worth = number(1, 99);
            plan.wants.add();
            plan.wants.set(Plan.WANT_KIND, kind);
            plan.wants.set(Plan.WANT_DAY, day);
            plan.wants.set(Plan.WORTH, worth);
            plan.lastWantDay = Math.max(plan.lastWantDay, day);
        }

        /** Goes on behind the word of a LINE, if there is room for one more of its rows. */
        private void room(Rows rows) {
            if (rows.isFull()) {
                fail(TOO_MUCH);
            }
            scanner.advance();
        }

        private int onceLine(int most) {
            int bit = 1 << scanner.token;
            if ((toldOnce & bit) != 0) {
                fail(TOLD_ALREADY);
            }
            toldOnce |= bit;
            scanner.advance();
            return number(0, most);
        }

        private int newName(Rows rows) {
            int letters = scanner.value;
            if (scanner.token != Scanner.NAME) {
                fail(WRONG_TOKEN);
            } else if (rows.rowOf(letters) != NONE) {
                fail(TOLD_ALREADY);
            }
            scanner.advance();
            return letters;
        }

        private int toldName(Rows rows) {
            int row = rows.rowOf(scanner.value);
            if (scanner.token != Scanner.NAME) {
                fail(WRONG_TOKEN);
            } else if (row == NONE) {
                fail(NOT_TOLD);
            }
            scanner.advance();
            return Math.max(row, 0);
        }

        private int number(int least, int most) {
            int value = scanner.value;
            if (scanner.token != Scanner.NUMBER) {
                fail(WRONG_TOKEN);
            } else if (value < least || value > most) {
                fail(TOO_MUCH);
            }
            scanner.advance();
            return value;
        }

        private void lawLine() {
            scanner.advance();
            int law = scanner.token - Scanner.FRESH;
            if (law < 0 || law >= LAWS) {
                fail(WRONG_TOKEN);
                return;
            }
            if (plan.laws.has(law)) {
                fail(TOLD_ALREADY);
            }
            scanner.advance();
            plan.laws.begin(law);
            either(0);
            plan.laws.end(law);
        }

        /** Goes on behind a KNOT, if it isn't one too many. */
        private void knot() {
            if (plan.laws.knots >= MOST_KNOTS) {
                fail(TOO_MUCH);
            }
            plan.laws.knots++;
            scanner.advance();
        }

        private void emit(int knot) {
            if (fault == 0) {
                plan.laws.emit(knot);
            }
        }

        // Each turn of the loops below takes a KNOT, which ends them.

        private void either(int depth) {
            both(depth);
            for (int i = 0; i < MOST_KNOTS && scanner.token == Scanner.OR; i++) {
                knot();
                both(depth);
                emit(-Scanner.OR);
            }
        }

        private void both(int depth) {
            denied(depth);
            for (int i = 0; i < MOST_KNOTS && scanner.token == Scanner.AND; i++) {
                knot();
                denied(depth);
                emit(-Scanner.AND);
            }
        }

        private void denied(int depth) {
            int times = 0;
            // One turn more than there may be KNOTS, for the one that is too many.
            for (; times <= MOST_KNOTS && scanner.token == Scanner.NOT; times++) {
                knot();
            }
            compared(depth);
            for (int i = 0; i < times; i++) {
                emit(-Scanner.NOT);
            }
        }

        private void compared(int depth) {
            sum(depth);
            int sign = scanner.token;
            if (isComparison(sign)) {
                knot();
                sum(depth);
                emit(-sign);
            }
        }

        private static boolean isComparison(int token) {
            return token >= Scanner.LESS && token <= Scanner.MORE
                    || token >= Scanner.AT_MOST && token <= Scanner.OTHER;
        }

        private void sum(int depth) {
            product(depth);
            for (int i = 0; i < MOST_KNOTS && (scanner.token == Scanner.PLUS || scanner.token == Scanner.MINUS); i++) {
                int sign = scanner.token;
                knot();
                product(depth);
                emit(-sign);
            }
        }

        private void product(int depth) {
            part(depth);
            for (int i = 0; i < MOST_KNOTS && (scanner.token == Scanner.TIMES || scanner.token == Scanner.OVER); i++) {
                int sign = scanner.token;
                knot();
                part(depth);
                emit(-sign);
            }
        }

        private void part(int depth) {
            int token = scanner.token;
            int value = scanner.value;
            if (token == Scanner.NUMBER) {
                if (value > MOST_OF_E) {
                    fail(TOO_MUCH);
                }
                knot();
                emit(value);
            } else if (token >= Scanner.DENTS && token <= Scanner.DAY) {
                knot();
                emit(-token);
            } else if (token == Scanner.BRACKET) {
                bracket(depth);
            } else {
                fail(WRONG_TOKEN);
            }
        }

        private void bracket(int depth) {
            if (depth >= MOST_BRACKETS) {
                fail(TOO_MUCH);
                return;
            }
            scanner.advance();
            either(depth + 1);
            expect(Scanner.BRACKET_END);
        }
    }

    /** How the nation stands on a DAY. */
    private static final class State {
        final int[] status = new int[MOST_TINS];
        final int[] dents = new int[MOST_TINS];
        final int[] stack = new int[MOST_TINS];
        /** Of two in one STACK the one with more lies above. */
        final int[] height = new int[MOST_TINS];
        final int[] fresh = new int[MOST_TINS];
        final int[] served = new int[MOST_TINS];
        final int[] wants = new int[MOST_WANTS];
        int tins;
        int day;
        int keys;
        int glory;
        int met;
        int missed;
        int refused;
        /** The last of the numbers drawn, or the seed. */
        long number;

        void begin(Plan plan) {
            tins = Math.min(plan.tins.size, MOST_TINS);
            for (int tin = 0; tin < tins; tin++) {
                status[tin] = CLOSED;
                dents[tin] = plan.tins.at(tin, Plan.DENTS);
                stack[tin] = plan.tins.at(tin, Plan.STACK);
                height[tin] = tin;
                fresh[tin] = 0;
                served[tin] = 0;
            }
            for (int want = 0; want < MOST_WANTS; want++) {
                wants[want] = TO_COME;
            }
            day = 0;
            keys = plan.keys;
            glory = 0;
            met = 0;
            missed = 0;
            refused = 0;
            number = plan.seed;
        }

        void take(State other) {
            System.arraycopy(other.status, 0, status, 0, MOST_TINS);
            System.arraycopy(other.dents, 0, dents, 0, MOST_TINS);
            System.arraycopy(other.stack, 0, stack, 0, MOST_TINS);
            System.arraycopy(other.height, 0, height, 0, MOST_TINS);
            System.arraycopy(other.fresh, 0, fresh, 0, MOST_TINS);
            System.arraycopy(other.served, 0, served, 0, MOST_TINS);
            System.arraycopy(other.wants, 0, wants, 0, MOST_WANTS);
            tins = other.tins;
            day = other.day;
            keys = other.keys;
            glory = other.glory;
            met = other.met;
            missed = other.missed;
            refused = other.refused;
            number = other.number;
        }

        boolean has(int tin) {
            return tin >= 0 && tin < tins;
        }

        boolean isClosed(int tin) {
            return has(tin) && status[tin] == CLOSED;
        }

        boolean isOnTop(int tin) {
            return isClosed(tin) && closedAbove(tin) == 0;
        }

        int closedAbove(int tin) {
            if (!has(tin)) {
                return 0;
            }
            int many = 0;
            for (int other = 0; other < tins; other++) {
                if (status[other] == CLOSED && stack[other] == stack[tin] && height[other] > height[tin]) {
                    many++;
                }
            }
            return many;
        }

        int heightOver(int where) {
            int over = 0;
            for (int tin = 0; tin < tins; tin++) {
                if (stack[tin] == where) {
                    over = Math.max(over, height[tin] + 1);
                }
            }
            return over;
        }

        int howMany(int which) {
            int many = 0;
            for (int tin = 0; tin < tins; tin++) {
                if (status[tin] == which) {
                    many++;
                }
            }
            return many;
        }

        int drawn() {
            number = (number * 1103515245L + 12345L) & 0x7fffffffL;
            return (int) (number / 65536);
        }
    }

    /** Lets DAYS go by: by numbers, as it goes, or otherwise. */
    private static final class Days {
        static final int AS_IT_GOES = 0;
        static final int NO_RUST = 1;
        static final int NEVER_OPENED = 2;
        static final int ALL_ON_TOP = 3;
        static final int MANY_KEYS = 4;
        static final int NOTHING_GOES_OFF = 5;

        private static final int NAMES = 7;
        private static final int RUSTS_FROM = 50;

        private final Plan plan;
        private final int[] names = new int[NAMES];
        private boolean isDrawn;
        private int way;
        private int spared;

        Days(Plan plan) {
            this.plan = plan;
        }

        void byNumbers() {
            isDrawn = true;
            way = AS_IT_GOES;
        }

        void asItGoes() {
            isDrawn = false;
            way = AS_IT_GOES;
        }

        void otherwise(int what, int tin) {
            isDrawn = false;
            way = what;
            spared = tin;
        }

        /** Only WANTS bring GLORY: behind the last of them no DAY needs to be looked at for it. */
        boolean mayBringGlory(State s) {
            return s.day <= plan.lastWantDay;
        }

        /** One DAY, (1) to (5). */
        void pass(State s) {
            if (s.day <= plan.lastOpenDay) {
                openTold(s);
            }
            if (s.day <= plan.lastWantDay) {
                serve(s);
            }
            if (way != NOTHING_GOES_OFF) {
                goOff(s);
            }
            if (way != NO_RUST) {
                rust(s);
            }
            blow(s);
            s.day++;
        }

        private void openTold(State s) {
            int[] dayOf = plan.opens.column(Plan.OPEN_DAY);
            for (int i = 0; i < plan.opens.size; i++) {
                int tin = plan.opens.at(i, Plan.OPEN_TIN);
                boolean isSpared = way == NEVER_OPENED && tin == spared;
                if (dayOf[i] == s.day && !isSpared) {
                    if (s.keys > 0 && (way == ALL_ON_TOP ? s.isClosed(tin) : s.isOnTop(tin))) {
                        unseal(s, tin);
                    } else {
                        s.refused++;
                    }
                }
            }
        }

        /** Opens one with a key; that it may be is for the caller to know. */
        void unseal(State s, int tin) {
            if (s.has(tin)) {
                s.status[tin] = OPENED;
                s.keys--;
                s.fresh[tin] = within(plan.laws.work(LAW_FRESH, namesOf(s, tin, NONE)), 1, 9, 3);
            }
        }

        /** Opens one wherever it lies, as ORDER and BEST have it. */
        void unsealAnyway(State s, int tin) {
            if (s.isClosed(tin) && s.keys > 0) {
                unseal(s, tin);
            }
        }

        private void serve(State s) {
            int[] dayOf = plan.wants.column(Plan.WANT_DAY);
            int busy = 0;
            for (int want = 0; want < plan.wants.size; want++) {
                if (dayOf[want] == s.day) {
                    int tin = server(s, plan.wants.at(want, Plan.WANT_KIND), busy);
                    if (tin == NONE) {
                        s.wants[want] = MISSED;
                        s.missed++;
                    } else {
                        busy |= 1 << tin;
                        s.wants[want] = MET;
                        s.met++;
                        s.served[tin]++;
                        long worked = plan.laws.work(LAW_GLORY, namesOf(s, tin, want));
                        s.glory += within(worked, 0, 999, plan.wants.at(want, Plan.WORTH));
                    }
                }
            }
        }

        /** The first OPEN one of a KIND that isn't among the busy ones (bits); NONE without. */
        private int server(State s, int kind, int busy) {
            int[] kindOf = plan.tins.column(Plan.KIND);
            for (int tin = 0; tin < s.tins; tin++) {
                if (s.status[tin] == OPENED && kindOf[tin] == kind && !isBit(busy, tin)) {
                    return tin;
                }
            }
            return NONE;
        }

        private void goOff(State s) {
            for (int tin = 0; tin < s.tins; tin++) {
                if (s.status[tin] == OPENED) {
                    s.fresh[tin]--;
                    if (s.fresh[tin] <= 0) {
                        s.fresh[tin] = 0;
                        s.status[tin] = EMPTY;
                    }
                }
            }
        }

        private void rust(State s) {
            boolean isLaw = plan.laws.has(LAW_BLOW);
            // Without a law all have the same odds, and mostly none at all.
            if (!isLaw && plan.rust < (isDrawn ? 1 : RUSTS_FROM)) {
                return;
            }
            for (int tin = 0; tin < s.tins; tin++) {
                if (s.status[tin] == CLOSED) {
                    long worked = isLaw ? plan.laws.work(LAW_BLOW, namesOf(s, tin, NONE)) : ERROR;
                    if (rusts(s, within(worked, 0, HUNDRED, plan.rust))) {
                        s.dents[tin] = Math.min(MOST_DENTS, s.dents[tin] + 1);
                    }
                }
            }
        }

        private boolean rusts(State s, int odds) {
            if (!isDrawn) {
                return odds >= RUSTS_FROM;
            }
            // What is sure takes no number.
            if (odds == 0 || odds == HUNDRED) {
                return odds == HUNDRED;
            }
            return s.drawn() % HUNDRED < odds;
        }

        private void blow(State s) {
            int[] keepsOf = plan.tins.column(Plan.KEEPS);
            for (int tin = 0; tin < s.tins; tin++) {
                if (s.status[tin] == CLOSED && (keepsOf[tin] <= s.day || s.dents[tin] >= MOST_DENTS)) {
                    s.status[tin] = BLOWN;
                }
            }
        }

        /** What the NAMES stand for, of a TIN, and of a WANT where there is one. */
        int[] namesOf(State s, int tin, int want) {
            int kind = plan.tins.at(tin, Plan.KIND);
            boolean isTin = s.has(tin);
            names[0] = isTin ? s.dents[tin] : 0;
            names[1] = plan.tins.at(tin, Plan.KEEPS);
            names[2] = plan.kinds.at(kind, Plan.WEIGHT);
            names[3] = plan.kinds.at(kind, Plan.SOUND);
            names[4] = plan.wants.at(want, Plan.WORTH);
            names[5] = isTin ? s.fresh[tin] : 0;
            names[6] = s.day;
            return names;
        }

        private static int within(long value, int least, int most, int without) {
            if (value == ERROR) {
                return without;
            }
            return (int) Math.max(least, Math.min(most, value));
        }
    }

    /** NOTES, SIGHTS and STRIKES as they came. */
    private static final class Told {
        static final int WEIGHS = 0;
        static final int SOUNDS = 1;
        static final int SIGHT = 2;
        static final int STRIKE = 3;
        static final int MOST_SEEN = 60;

        private static final int SORT = 0;
        /** How much, behind how many DAYS, or which one is STRUCK. */
        private static final int MUCH = 1;
        private static final int TIN = 2;
        private static final int IS_SO = 3;

        final Rows rows = new Rows(MOST_TOLD, 4);
        int knownBy = NONE;

        void clear() {
            rows.size = 0;
            knownBy = NONE;
        }

        int add(int sort, int much, int tin, boolean isSo) {
            if (rows.isFull()) {
                return NONE;
            }
            rows.add();
            rows.set(SORT, sort);
            rows.set(MUCH, much);
            rows.set(TIN, tin);
            rows.set(IS_SO, isSo ? 1 : 0);
            return rows.size - 1;
        }

        int howManyKnown() {
            return knownBy == NONE ? rows.size : Math.min(knownBy, rows.size);
        }

        /** Bits of the KNOWN ones. A STRIKE is of an earlier one, so from the last on each is settled. */
        int counted() {
            int bits = 0;
            int struck = 0;
            for (int i = howManyKnown() - 1; i >= 0; i--) {
                if (!isBit(struck, i)) {
                    bits |= 1 << i;
                    if (rows.at(i, SORT) == STRIKE) {
                        struck |= 1 << rows.at(i, MUCH);
                    }
                }
            }
            return bits;
        }

        boolean mayBe(int counted, int weight, int sound) {
            for (int i = 0; i < rows.size; i++) {
                int sort = rows.at(i, SORT);
                if (isBit(counted, i) && (sort == WEIGHS || sort == SOUNDS)) {
                    boolean isSo = (sort == WEIGHS ? weight : sound) >= rows.at(i, MUCH);
                    if (isSo != (rows.at(i, IS_SO) == 1)) {
                        return false;
                    }
                }
            }
            return true;
        }

        int lastSeen(int counted) {
            int last = 0;
            for (int i = 0; i < rows.size; i++) {
                if (isBit(counted, i) && rows.at(i, SORT) == SIGHT) {
                    last = Math.max(last, rows.at(i, MUCH));
                }
            }
            return Math.min(last, MOST_SEEN);
        }

        /** Whether the SIGHTS behind so many DAYS are as the nation stands then. */
        boolean isSeenSo(int counted, int day, State s) {
            for (int i = 0; i < rows.size; i++) {
                if (isBit(counted, i) && rows.at(i, SORT) == SIGHT && rows.at(i, MUCH) == day) {
                    int tin = rows.at(i, TIN);
                    boolean isBlown = s.has(tin) && s.status[tin] == BLOWN;
                    if (isBlown != (rows.at(i, IS_SO) == 1)) {
                        return false;
                    }
                }
            }
            return true;
        }
    }

    /** What was done by call on this DAY, as far as it can be undone. */
    private static final class Steps {
        static final int OPENING = 0;
        static final int STACKING = 1;
        static final int DENT = 2;
        static final int KEYS = 3;

        private static final int SORT = 0;
        /** The TIN, or how many keys. */
        private static final int WHAT = 1;
        private static final int STACK = 2;
        private static final int HEIGHT = 3;

        final Rows rows = new Rows(MOST_STEPS, 4);

        void clear() {
            rows.size = 0;
        }

        void add(int sort, int what, int stack, int height) {
            if (rows.isFull()) {
                rows.dropFirst();
            }
            rows.add();
            rows.set(SORT, sort);
            rows.set(WHAT, what);
            rows.set(STACK, stack);
            rows.set(HEIGHT, height);
        }

        void takeBack(State s) {
            int last = rows.size - 1;
            int sort = rows.at(last, SORT);
            int what = rows.at(last, WHAT);
            if (sort == KEYS) {
                s.keys -= what;
            } else if (s.has(what)) {
                takeBackOfTin(s, sort, what);
            }
            rows.size = Math.max(last, 0);
        }

        private void takeBackOfTin(State s, int sort, int tin) {
            int last = rows.size - 1;
            if (sort == OPENING) {
                s.status[tin] = CLOSED;
                s.fresh[tin] = 0;
                s.keys++;
            } else if (sort == STACKING) {
                s.stack[tin] = rows.at(last, STACK);
                s.height[tin] = rows.at(last, HEIGHT);
            } else {
                s.dents[tin]--;
            }
        }
    }
}
