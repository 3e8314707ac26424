/** Sums of told powers: forms, proofs and identities, told as texts. See README.md and the document. */
public final class ToldPowers {
    public static final int NONE = -1;

    private static final int NOTHING = -100000;
    private static final int NO_SUCH = -2;
    private static final long LEAST_LONG = 1L << 63;
    private static final int SLOTS = 4;
    private static final int MOST_TERMS = 5;
    private static final int MOST_FACTOR = 99;
    private static final int LIMIT = 3000;
    private static final int NUMBERS = 2 * LIMIT + 1;
    private static final int MOST_MODULUS = 60;
    private static final int MOST_WAYS_ASKED = 1000000;
    private static final int MOST_RANKED = 200;
    private static final int MOST_LINES = 60;
    private static final int MOST_PARTS = 60;
    private static final int MOST_OPEN = 6;
    private static final int MOST_POWER = 6;
    private static final int MOST_DIGITS = 4;
    private static final int LETTERS = 6;
    private static final int BOXES = 4;
    private static final int MOST_SIDE = 9;
    private static final int TAPE_ROOM = 800;
    private static final int FED = 20;
    private static final int PAGE_ROOM = 2400;
    private static final int CODE_ROOM = 200;

    private static final int LINE = 0;
    private static final int SQUARE = 1;
    private static final int CUBE = 2;
    private static final int FOURTH = 3;
    private static final int THREE = 4;
    private static final int KINDS = 5;

    private static final int FAULT_STAND = 1;
    private static final int FAULT_FACTOR = 2;
    private static final int FAULT_RANGE = 3;
    private static final int FAULT_TERMS = 4;
    private static final int FAULT_NUMBER = 5;
    private static final int FAULT_X = 6;
    private static final int FAULT_X_COUNT = 7;
    private static final int FAULT_UNTRUE = 8;
    private static final int FAULT_LINES = 9;
    private static final int FAULT_POWER = 10;
    private static final int FAULT_OPEN = 11;
    private static final int FAULT_PARTS = 12;

    private static final int TOKEN_END = 0;
    private static final int TOKEN_N = 1;
    private static final int TOKEN_WORD = 2;
    private static final int TOKEN_SIGN = 3;
    private static final int TOKEN_WRONG = 4;

    private static final int PUSH_N = 0;
    private static final int PUSH_LETTER = 1;
    private static final int PLUS = 2;
    private static final int MINUS = 3;
    private static final int TIMES = 4;
    private static final int POWER = 5;

    private static final int HOLDS = 0;
    private static final int UNLIKE_SIDES = 1;
    private static final int BEYOND_LONGS = 2;

    private final Tape tape;
    private final Form[] forms;
    private final Tally[] tallies;
    private final Form joined;
    private final FormReader formReader;
    private final ProofReader proofReader;
    private final IdentityReader identityReader;
    private final Series series;
    private final Classes classes;
    private final SumSet sums;
    private final Page page;
    private final int[] row;
    private Identity latest;
    private Identity spare;

    public ToldPowers() {
        tape = new Tape();
        forms = new Form[SLOTS];
        tallies = new Tally[SLOTS];
        for (int slot = 0; slot < SLOTS; slot++) {
            forms[slot] = new Form();
            tallies[slot] = new Tally();
        }
        joined = new Form();
        formReader = new FormReader(tape);
        proofReader = new ProofReader(tape);
        identityReader = new IdentityReader(tape);
        series = new Series();
        classes = new Classes();
        sums = new SumSet();
        page = new Page();
        row = new int[MOST_TERMS];
        latest = new Identity();
        spare = new Identity();
    }

    // ---- the tape and what is read of it ----

    public int feed(int a, int b, int c, int d, int e) {
        if (tape.length + FED > TAPE_ROOM) {
            return NONE;
        }
        tape.append(a);
        tape.append(b);
        tape.append(c);
        tape.append(d);
        tape.append(e);
        return tape.length;
    }

    public boolean end(int n) {
        if (n < 0 || n > tape.length) {
            return false;
        }
        tape.length = n;
        return true;
    }

    public int form(int slot) {
        tape.forgetFault();
        int answer = NO_SUCH;
        if (isSlot(slot)) {
            answer = NONE;
            if (formReader.readAll()) {
                replaceForm(slot, formReader.draft);
                answer = forms[slot].count;
            }
        }
        tape.length = 0;
        return answer;
    }

    public int prove(int slot) {
        tape.forgetFault();
        int answer = NO_SUCH;
        if (hasTerms(slot)) {
            answer = proofReader.readAll(forms[slot], wayCounts(slot));
        }
        tape.length = 0;
        return answer;
    }

    public int identity() {
        tape.forgetFault();
        int answer = NONE;
        if (identityReader.readAll(spare)) {
            Identity old = latest;
            latest = spare;
            spare = old;
            answer = latest.letterCount();
        }
        tape.length = 0;
        return answer;
    }

    public int fault(int what) {
        switch (what) {
            case 0:
                return tape.faultSort;
            case 1:
                return tape.faultPlace;
            case 2:
                return tape.faultOuter;
            case 3:
                return tape.faultInner;
            default:
                return NONE;
        }
    }

    // ---- terms and ways ----

    public int term(int slot, int i, int what) {
        if (!hasTerm(slot, i)) {
            return NOTHING;
        }
        Form form = forms[slot];
        switch (what) {
            case 0:
                return form.factor[i];
            case 1:
                return form.kind[i];
            case 2:
                return form.low[i];
            case 3:
                return form.high[i];
            default:
                return NOTHING;
        }
    }

    public long ways(int slot, int n) {
        if (!hasTerms(slot) || !isNumber(n)) {
            return NONE;
        }
        return wayCounts(slot)[n + LIMIT];
    }

    public long unlike(int slot, int n) {
        if (!hasTerms(slot) || !isNumber(n)) {
            return NONE;
        }
        return unlikeCounts(slot)[n + LIMIT];
    }

    public int way(int slot, int n, long k, int i) {
        if (!hasTerm(slot, i) || !isNumber(n)) {
            return NOTHING;
        }
        if (k < 0 || k >= wayCounts(slot)[n + LIMIT]) {
            return NOTHING;
        }
        takeWay(slot, n, k);
        return row[i];
    }

    public long number(int slot, int n, int a, int b, int c, int d, int e) {
        if (!hasTerms(slot) || !isNumber(n)) {
            return NONE;
        }
        row[0] = a;
        row[1] = b;
        row[2] = c;
        row[3] = d;
        row[4] = e;
        if (!rowIsWay(forms[slot], n)) {
            return NONE;
        }
        return waysAhead(slot, n);
    }

    // ---- numbers that are met or missed ----

    public int missed(int slot, int from, int to, int i) {
        if (!hasTerms(slot) || !isRange(from, to) || i < NONE) {
            return NOTHING;
        }
        long[] counts = wayCounts(slot);
        int found = 0;
        for (int n = from; n <= to; n++) {
            if (counts[n + LIMIT] == 0) {
                if (found == i) {
                    return n;
                }
                found++;
            }
        }
        return i == NONE ? found : NOTHING;
    }

    public int explained(int slot, int from, int to, int m) {
        if (!hasTerms(slot) || !isRange(from, to) || !isModulus(m)) {
            return NONE;
        }
        long[] counts = wayCounts(slot);
        classes.fill(forms[slot], m);
        int found = 0;
        for (int n = from; n <= to; n++) {
            if (counts[n + LIMIT] == 0 && classes.rowsFrom(0, Math.floorMod(n, m)) == 0) {
                found++;
            }
        }
        return found;
    }

    public int full(int slot) {
        if (!hasTerms(slot)) {
            return NONE;
        }
        long[] counts = wayCounts(slot);
        int least = NONE;
        for (int n = LIMIT; n >= 0 && counts[n + LIMIT] > 0; n--) {
            least = n;
        }
        return least;
    }

    public int many(int slot, int from, int k, boolean exact) {
        if (!hasTerms(slot) || !isNumber(from) || k < 1 || k > MOST_WAYS_ASKED) {
            return NOTHING;
        }
        long[] counts = unlikeCounts(slot);
        for (int n = from; n <= LIMIT; n++) {
            long count = counts[n + LIMIT];
            if (count == k || (!exact && count > k)) {
                return n;
            }
        }
        return NOTHING;
    }

    public int common(int slot, int other, int from, int to, int i) {
        if (!hasTerms(slot) || !hasTerms(other) || !isRange(from, to) || i < NONE) {
            return NOTHING;
        }
        long[] counts = wayCounts(slot);
        long[] others = wayCounts(other);
        int found = 0;
        for (int n = from; n <= to; n++) {
            if (counts[n + LIMIT] > 0 && others[n + LIMIT] > 0) {
                if (found == i) {
                    return n;
                }
                found++;
            }
        }
        return i == NONE ? found : NOTHING;
    }

    public int gap(int slot, int from, int to, int what) {
        if (!hasTerms(slot) || !isRange(from, to) || what < 0 || what > 1) {
            return NOTHING;
        }
        long[] counts = wayCounts(slot);
        int longest = 0;
        int first = NOTHING;
        int length = 0;
        for (int n = from; n <= to; n++) {
            length = counts[n + LIMIT] == 0 ? length + 1 : 0;
            if (length > longest) {
                longest = length;
                first = n - length + 1;
            }
        }
        return what == 0 ? longest : first;
    }

    public int rank(int slot, int from, int to, int i) {
        if (!hasTerms(slot) || !isRange(from, to)) {
            return NOTHING;
        }
        int size = to - from + 1;
        if (size > MOST_RANKED || i < 0 || i >= size) {
            return NOTHING;
        }
        long[] counts = wayCounts(slot);
        for (int n = from; n <= to; n++) {
            if (countAhead(counts, from, to, n) == i) {
                return n;
            }
        }
        return NOTHING;
    }

    // ---- classes of remainders ----

    public long met(int slot, int m, int r) {
        if (!hasTerms(slot) || !isClass(m, r)) {
            return NONE;
        }
        classes.fill(forms[slot], m);
        return classes.rowsFrom(0, r);
    }

    public int meets(int slot, int m, int r, int i) {
        if (!hasTerm(slot, i) || !isClass(m, r)) {
            return NONE;
        }
        classes.fill(forms[slot], m);
        if (classes.rowsFrom(0, r) == 0) {
            return NONE;
        }
        return classes.firstRow(forms[slot], r, i);
    }

    public int never(int slot, int m, int i) {
        if (!hasTerms(slot) || !isModulus(m) || i < NONE) {
            return NONE;
        }
        classes.fill(forms[slot], m);
        int found = 0;
        for (int r = 0; r < m; r++) {
            if (classes.rowsFrom(0, r) == 0) {
                if (found == i) {
                    return r;
                }
                found++;
            }
        }
        return i == NONE ? found : NONE;
    }

    public int bars(int slot) {
        if (!hasTerms(slot)) {
            return NONE;
        }
        for (int m = 1; m <= MOST_MODULUS; m++) {
            classes.fill(forms[slot], m);
            for (int r = 0; r < m; r++) {
                if (classes.rowsFrom(0, r) == 0) {
                    return m;
                }
            }
        }
        return NONE;
    }

    // ---- greed, the nearest sum, the fewest terms ----

    public int greed(int slot, int n, int i) {
        if (!hasTerms(slot) || !isNumber(n) || i < NONE || i >= forms[slot].count) {
            return NOTHING;
        }
        Form form = forms[slot];
        int left = n;
        for (int t = 0; t < form.count; t++) {
            int x = greedyX(form, t, left);
            if (t == i) {
                return x;
            }
            left -= form.valueOf(t, x);
        }
        return left;
    }

    public int nearest(int slot, int n) {
        if (!hasTerms(slot) || !isNumber(n)) {
            return NOTHING;
        }
        Form form = forms[slot];
        sums.begin();
        for (int t = 0; t < form.count; t++) {
            sums.addTerm(form, t);
        }
        int farthest = (MOST_TERMS + 1) * LIMIT;
        for (int distance = 0; distance <= farthest; distance++) {
            if (sums.holds(n - distance)) {
                return n - distance;
            }
            if (sums.holds(n + distance)) {
                return n + distance;
            }
        }
        return NOTHING;
    }

    public int enough(int slot, int n) {
        if (!hasTerms(slot) || !isNumber(n)) {
            return NONE;
        }
        Form form = forms[slot];
        sums.begin();
        for (int t = 0; t < form.count; t++) {
            sums.addTerm(form, t);
            if (sums.holds(n)) {
                return t + 1;
            }
        }
        return NONE;
    }

    // ---- forms joined and taken from ----

    public boolean join(int slot, int other, int into) {
        if (!isSlot(slot) || !isSlot(other) || !isSlot(into)) {
            return false;
        }
        int count = forms[slot].count + forms[other].count;
        if (count < 1 || count > MOST_TERMS) {
            return false;
        }
        joined.count = 0;
        joined.addAll(forms[slot]);
        joined.addAll(forms[other]);
        replaceForm(into, joined);
        return true;
    }

    public boolean drop(int slot, int i) {
        if (!hasTerm(slot, i)) {
            return false;
        }
        joined.count = 0;
        for (int t = 0; t < forms[slot].count; t++) {
            if (t != i) {
                joined.addTermOf(forms[slot], t);
            }
        }
        replaceForm(slot, joined);
        return true;
    }

    public boolean lead(int slot, int i) {
        if (!hasTerm(slot, i)) {
            return false;
        }
        joined.count = 0;
        joined.addTermOf(forms[slot], i);
        for (int t = 0; t < forms[slot].count; t++) {
            if (t != i) {
                joined.addTermOf(forms[slot], t);
            }
        }
        replaceForm(slot, joined);
        return true;
    }

    // ---- the identity ----

    public int tried(int b, int what) {
        if (!latest.isThere() || b < 0 || b >= BOXES || what < 0 || what > LETTERS + 1) {
            return NOTHING;
        }
        latest.tryBox(b);
        if (what == 0) {
            return latest.brokenRows[b];
        }
        if (latest.brokenRows[b] == 0) {
            return NOTHING;
        }
        if (what <= LETTERS) {
            return latest.firstBroken[b * LETTERS + what - 1];
        }
        return latest.firstBeyond[b] ? 1 : 0;
    }

    public long side(int side, int a, int b, int c, int d, int e, int f) {
        if (!latest.isThere() || side < 0 || side > 1) {
            return LEAST_LONG;
        }
        if (!isSideNumber(a) || !isSideNumber(b) || !isSideNumber(c)) {
            return LEAST_LONG;
        }
        if (!isSideNumber(d) || !isSideNumber(e) || !isSideNumber(f)) {
            return LEAST_LONG;
        }
        int[] values = latest.values;
        values[0] = a;
        values[1] = b;
        values[2] = c;
        values[3] = d;
        values[4] = e;
        values[5] = f;
        return latest.evaluate(side) ? latest.result : LEAST_LONG;
    }

    // ---- what is shown ----

    public int spell(int slot) {
        if (!hasTerms(slot)) {
            return NONE;
        }
        page.size = 0;
        for (int t = 0; t < forms[slot].count; t++) {
            if (t > 0) {
                page.putSign('+');
            }
            spellTerm(forms[slot], t);
        }
        return page.size;
    }

    public int write(int slot, int from, int to) {
        if (!hasTerms(slot) || !isRange(from, to) || to - from >= MOST_LINES) {
            return NONE;
        }
        page.size = 0;
        for (int n = from; n <= to; n++) {
            writeLine(slot, n);
        }
        return page.size;
    }

    public int out(int i) {
        if (i < 0 || i >= page.size) {
            return NONE;
        }
        return page.signs[i];
    }

    public int look(int what) {
        if (isSlot(what)) {
            return forms[what].count;
        }
        switch (what) {
            case 4:
                return tape.length;
            case 5:
                return latest.letters;
            case 6:
                return latest.parts;
            default:
                return NONE;
        }
    }

    // ---- what arguments may be ----

    private static boolean isSlot(int slot) {
        return slot >= 0 && slot < SLOTS;
    }

    private boolean hasTerms(int slot) {
        return isSlot(slot) && forms[slot].count > 0;
    }

    private boolean hasTerm(int slot, int i) {
        return isSlot(slot) && i >= 0 && i < forms[slot].count;
    }

    private static boolean isNumber(int n) {
        return n >= -LIMIT && n <= LIMIT;
    }

    private static boolean isRange(int from, int to) {
        return isNumber(from) && isNumber(to) && from <= to;
    }

    private static boolean isModulus(int m) {
        return m >= 1 && m <= MOST_MODULUS;
    }

    private static boolean isClass(int m, int r) {
        return isModulus(m) && r >= 0 && r < m;
    }

    private static boolean isSideNumber(int value) {
        return value >= -MOST_SIDE && value <= MOST_SIDE;
    }

    // ---- ways, kept as long as the form of a slot stays ----

    private void replaceForm(int slot, Form form) {
        forms[slot].count = 0;
        forms[slot].addAll(form);
        tallies[slot].forget();
        series.forget(slot);
    }

    private long[] wayCounts(int slot) {
        Tally tally = tallies[slot];
        if (tally.waysKnown) {
            return tally.waysOf;
        }
        series.countWays(slot, forms[slot]);
        return tally.keepWays(series);
    }

    private long[] unlikeCounts(int slot) {
        Tally tally = tallies[slot];
        if (tally.unlikeKnown) {
            return tally.unlikeOf;
        }
        series.countUnlike(forms[slot]);
        return tally.keepUnlike(series);
    }

    /** Puts the k-th way of n into row; there must be more than k. */
    private void takeWay(int slot, int n, long k) {
        Form form = forms[slot];
        series.countWays(slot, form);
        long ahead = k;
        int left = n;
        for (int t = 0; t < form.count; t++) {
            for (int x = form.low[t]; x <= form.high[t]; x++) {
                int rest = left - form.valueOf(t, x);
                long count = series.waysFrom(t + 1, rest);
                if (ahead < count) {
                    row[t] = x;
                    left = rest;
                    break;
                }
                ahead -= count;
            }
        }
    }

    private boolean rowIsWay(Form form, int n) {
        int sum = 0;
        for (int t = 0; t < form.count; t++) {
            if (row[t] < form.low[t] || row[t] > form.high[t]) {
                return false;
            }
            sum += form.valueOf(t, row[t]);
        }
        return sum == n;
    }

    /** How many ways of n stand ahead of the one in row. */
    private long waysAhead(int slot, int n) {
        Form form = forms[slot];
        series.countWays(slot, form);
        long ahead = 0;
        int left = n;
        for (int t = 0; t < form.count; t++) {
            for (int x = form.low[t]; x < row[t]; x++) {
                ahead += series.waysFrom(t + 1, left - form.valueOf(t, x));
            }
            left -= form.valueOf(t, row[t]);
        }
        return ahead;
    }

    private static int countAhead(long[] counts, int from, int to, int n) {
        long own = counts[n + LIMIT];
        int ahead = 0;
        for (int other = from; other <= to; other++) {
            long count = counts[other + LIMIT];
            if (count > own || (count == own && other < n)) {
                ahead++;
            }
        }
        return ahead;
    }

    private static int greedyX(Form form, int t, int left) {
        int best = form.low[t];
        int bestValue = form.valueOf(t, best);
        for (int x = form.low[t] + 1; x <= form.high[t]; x++) {
            int value = form.valueOf(t, x);
            boolean better = bestValue > left ? value < bestValue : value > bestValue && value <= left;
            if (better) {
                best = x;
                bestValue = value;
            }
        }
        return best;
    }

    private void spellTerm(Form form, int t) {
        if (form.factor[t] != 1) {
            page.putInt(form.factor[t]);
        }
        page.putText(kindWord(form.kind[t]));
        if (form.low[t] != 0 || form.high[t] != greatestX(form.kind[t], form.factor[t])) {
            page.putText(" from ");
            page.putInt(form.low[t]);
            page.putText(" to ");
            page.putInt(form.high[t]);
        }
    }

    private void writeLine(int slot, int n) {
        page.putInt(n);
        if (wayCounts(slot)[n + LIMIT] == 0) {
            page.putText(" not");
        } else {
            takeWay(slot, n, 0L);
            for (int t = 0; t < forms[slot].count; t++) {
                page.putSign(t == 0 ? '=' : ',');
                page.putInt(row[t]);
            }
        }
        page.putSign(';');
    }

    // ---- kinds ----

    private static String kindWord(int kind) {
        switch (kind) {
            case LINE:
                return "line";
            case SQUARE:
                return "square";
            case CUBE:
                return "cube";
            case FOURTH:
                return "fourth";
            default:
                return "three";
        }
    }

    /** A long: x may have four digits before it is found to be beyond. */
    private static long powerValue(int kind, int factor, int x) {
        long y = x;
        switch (kind) {
            case LINE:
                return factor * y;
            case SQUARE:
                return factor * (y * y);
            case CUBE:
                return factor * (y * y * y);
            case FOURTH:
                return factor * (y * y * y * y);
            default:
                return factor * (y * (y + 1) / 2);
        }
    }

    private static boolean isBeyond(long value) {
        return value < -LIMIT || value > LIMIT;
    }

    /** The greatest x of a term that tells no range. */
    private static int greatestX(int kind, int factor) {
        int x = 0;
        while (x < LIMIT && powerValue(kind, factor, x + 1) <= LIMIT) {
            x++;
        }
        return x;
    }

    /** The tape, its tokens, and the fault that the latest reading met. */
    private static final class Tape {
        private final byte[] bytes;
        private final int[] sorts;
        private final int[] starts;
        private final int[] sizes;
        private final int[] amounts;
        private int length;
        private int next;
        private int tokens;
        private int at;
        private int whole;
        private int outer;
        private int inner;
        private int faultSort;
        private int faultPlace;
        private int faultOuter;
        private int faultInner;

        Tape() {
            bytes = new byte[TAPE_ROOM];
            sorts = new int[TAPE_ROOM + 1];
            starts = new int[TAPE_ROOM + 1];
            sizes = new int[TAPE_ROOM + 1];
            amounts = new int[TAPE_ROOM + 1];
            faultPlace = NONE;
            faultOuter = NONE;
            faultInner = NONE;
        }

        void append(int four) {
            for (int shift = 24; shift >= 0 && length < TAPE_ROOM; shift -= 8) {
                bytes[length] = (byte) (four >>> shift);
                length++;
            }
        }

        void forgetFault() {
            faultSort = 0;
            faultPlace = NONE;
            faultOuter = NONE;
            faultInner = NONE;
        }

        /** Looks at the first token, with what a fault there would lie within. */
        void begin(int firstOuter, int firstInner) {
            outer = firstOuter;
            inner = firstInner;
            at = 0;
            next = 0;
            tokens = 0;
            skipBlanks();
            for (int most = 0; most < TAPE_ROOM && next < length; most++) {
                cutToken();
                skipBlanks();
            }
            sorts[tokens] = TOKEN_END;
            starts[tokens] = length;
            sizes[tokens] = 0;
            amounts[tokens] = 0;
        }

        private void skipBlanks() {
            while (next < length && isBlank(bytes[next])) {
                next++;
            }
        }

        private void cutToken() {
            int start = next;
            int sort = sortOf(bytes[start]);
            next++;
            while (sort != TOKEN_SIGN && next < length && sortOf(bytes[next]) == sort) {
                next++;
            }
            sorts[tokens] = sort;
            starts[tokens] = start;
            sizes[tokens] = next - start;
            amounts[tokens] = bytes[start] & 255;
            if (sort == TOKEN_N) {
                takeAmount(start);
            }
            tokens++;
        }

        private void takeAmount(int start) {
            int amount = 0;
            for (int i = start; i < next && i < start + MOST_DIGITS; i++) {
                amount = 10 * amount + bytes[i] - '0';
            }
            amounts[tokens] = amount;
            if (next - start > MOST_DIGITS) {
                sorts[tokens] = TOKEN_WRONG;
            }
        }

        private static boolean isBlank(int b) {
            return b == 32 || b == 10;
        }

        private static int sortOf(int b) {
            if (b >= '0' && b <= '9') {
                return TOKEN_N;
            }
            return b >= 'a' && b <= 'z' ? TOKEN_WORD : TOKEN_SIGN;
        }

        /** The end stays the token that is looked at. */
        void advance() {
            if (at < tokens) {
                at++;
            }
        }

        /** Notes a fault at the token that is looked at; false, so that readers can answer with it. */
        boolean fail(int fault) {
            faultSort = fault;
            faultPlace = starts[at];
            faultOuter = outer;
            faultInner = inner;
            return false;
        }

        boolean isEnd() {
            return sorts[at] == TOKEN_END;
        }

        boolean isN() {
            return sorts[at] == TOKEN_N;
        }

        /** The N that is looked at. */
        int amount() {
            return amounts[at];
        }

        boolean isSign(char wanted) {
            return sorts[at] == TOKEN_SIGN && amounts[at] == wanted;
        }

        boolean isWord(String wanted) {
            int size = sizes[at];
            if (sorts[at] != TOKEN_WORD || size != wanted.length()) {
                return false;
            }
            for (int i = 0; i < size; i++) {
                if (bytes[starts[at] + i] != wanted.charAt(i)) {
                    return false;
                }
            }
            return true;
        }

        int kindThere() {
            for (int kind = 0; kind < KINDS; kind++) {
                if (isWord(kindWord(kind))) {
                    return kind;
                }
            }
            return NONE;
        }

        /** A letter a .. f that stands alone, from 0 on. */
        int letterThere() {
            int letter = amounts[at] - 'a';
            boolean alone = sorts[at] == TOKEN_WORD && sizes[at] == 1;
            return alone && letter >= 0 && letter < LETTERS ? letter : NONE;
        }

        boolean beginsWhole() {
            return isN() || isSign('-');
        }

        /** Stays at the N, for a fault of the number is told there. */
        boolean readWhole() {
            boolean below = isSign('-');
            if (below) {
                advance();
            }
            if (!isN()) {
                return fail(FAULT_STAND);
            }
            whole = below ? -amounts[at] : amounts[at];
            return true;
        }
    }

    /** Terms of a form, with the least and the greatest value of each. */
    private static final class Form {
        private int count;
        private final int[] factor;
        private final int[] kind;
        private final int[] low;
        private final int[] high;
        private final int[] least;
        private final int[] most;

        Form() {
            factor = new int[MOST_TERMS];
            kind = new int[MOST_TERMS];
            low = new int[MOST_TERMS];
            high = new int[MOST_TERMS];
            least = new int[MOST_TERMS];
            most = new int[MOST_TERMS];
        }

        void addNew(int newFactor, int newKind, int newLow, int newHigh) {
            if (count >= MOST_TERMS) {
                return;
            }
            int t = count;
            factor[t] = newFactor;
            kind[t] = newKind;
            low[t] = newLow;
            high[t] = newHigh;
            least[t] = Math.min(valueOf(t, newLow), valueOf(t, newHigh));
            most[t] = Math.max(valueOf(t, newLow), valueOf(t, newHigh));
            boolean turnsAtNought = newKind != LINE && newKind != CUBE;
            if (turnsAtNought && newLow <= 0 && newHigh >= 0) {
                least[t] = 0;
            }
            count++;
        }

        void addTermOf(Form other, int t) {
            addNew(other.factor[t], other.kind[t], other.low[t], other.high[t]);
        }

        void addAll(Form other) {
            for (int t = 0; t < other.count; t++) {
                addTermOf(other, t);
            }
        }

        int valueOf(int t, int x) {
            return (int) powerValue(kind[t], factor[t], x);
        }

        int spread(int t) {
            return most[t] - least[t];
        }

        boolean areLike(int s, int t) {
            return factor[s] == factor[t] && kind[s] == kind[t] && low[s] == low[t] && high[s] == high[t];
        }

        /** How many terms are like t; 0 if one of them stands ahead of it. */
        int likeFrom(int t) {
            int like = 0;
            for (int s = 0; s < count; s++) {
                if (areLike(s, t)) {
                    if (s < t) {
                        return 0;
                    }
                    like++;
                }
            }
            return like;
        }
    }

    /** How many ways and unlike ways each number has by the form of one slot; rows are made when first asked for. */
    private static final class Tally {
        private long[] waysOf;
        private long[] unlikeOf;
        private boolean waysKnown;
        private boolean unlikeKnown;

        void forget() {
            waysKnown = false;
            unlikeKnown = false;
        }

        long[] keepWays(Series series) {
            if (waysOf == null) {
                waysOf = new long[NUMBERS];
            }
            series.copyRow(waysOf);
            waysKnown = true;
            return waysOf;
        }

        long[] keepUnlike(Series series) {
            if (unlikeOf == null) {
                unlikeOf = new long[NUMBERS];
            }
            series.copyRow(unlikeOf);
            unlikeKnown = true;
            return unlikeOf;
        }
    }

    /**
     * Counts of ways as rows of coefficients. Place 0 of a row is the least sum there is, so that what is cut off
     * above the top place never comes back below it; numbers wrap around on the way, but not in what is answered.
     */
    private static final class Series {
        private static final int MOST_CELLS = (MOST_TERMS + 1) * ((MOST_TERMS + 1) * LIMIT + 1);

        private final int[] leastFrom;
        private long[] cells;
        private int owner;
        private int top;

        Series() {
            leastFrom = new int[MOST_TERMS + 1];
            cells = new long[0];
            owner = NONE;
            top = NONE;
        }

        void forget(int slot) {
            if (owner == slot) {
                owner = NONE;
            }
        }

        /** Row t counts the ways of terms t, t and 1, .. alone. */
        void countWays(int slot, Form form) {
            if (owner == slot) {
                return;
            }
            owner = slot;
            measure(form);
            if (!makeRows(form.count + 1)) {
                return;
            }
            int reach = 0;
            clear(form.count);
            cells[form.count * (top + 1)] = 1;
            for (int t = form.count - 1; t >= 0; t--) {
                clear(t);
                reach = addTerm(form, t, reach);
            }
        }

        /** Row 0 counts the ways in which x of like terms never fall. */
        void countUnlike(Form form) {
            owner = NONE;
            measure(form);
            if (!makeRows(form.count + 1)) {
                return;
            }
            int reach = 0;
            clear(0);
            cells[0] = 1;
            for (int t = 0; t < form.count; t++) {
                int like = form.likeFrom(t);
                if (like > 0 && form.kind[t] == LINE) {
                    addLikeLines(0, form, t, like);
                } else if (like > 0) {
                    addLikePowers(form, t, like, reach);
                }
                reach = Math.min(top, reach + like * form.spread(t));
            }
        }

        /** Ways to a sum by what row t counts. */
        long waysFrom(int t, int sum) {
            if (t < 0 || t > MOST_TERMS) {
                return 0;
            }
            int place = sum - leastFrom[t];
            return place < 0 || place > top ? 0 : cells[t * (top + 1) + place];
        }

        void copyRow(long[] counts) {
            for (int i = 0; i < counts.length; i++) {
                counts[i] = waysFrom(0, i - LIMIT);
            }
        }

        private void measure(Form form) {
            leastFrom[form.count] = 0;
            for (int t = form.count - 1; t >= 0; t--) {
                leastFrom[t] = leastFrom[t + 1] + form.least[t];
            }
            top = LIMIT - leastFrom[0];
        }

        /** False if every sum is above 3000. Cells are made anew by doubling at least, so that this is seldom. */
        private boolean makeRows(int rows) {
            if (top < 0) {
                return false;
            }
            int needed = rows * (top + 1);
            if (needed > cells.length) {
                cells = new long[Math.max(needed, Math.min(2 * cells.length, MOST_CELLS))];
            }
            return true;
        }

        private void clear(int t) {
            int first = t * (top + 1);
            for (int u = first; u <= first + top; u++) {
                cells[u] = 0;
            }
        }

        private int addTerm(Form form, int t, int reach) {
            if (form.kind[t] == LINE) {
                addShifted(t, t + 1, 0, reach);
                addLikeLines(t, form, t, 1);
            } else {
                for (int x = form.low[t]; x <= form.high[t]; x++) {
                    addShifted(t, t + 1, form.valueOf(t, x) - form.least[t], reach);
                }
            }
            return Math.min(top, reach + form.spread(t));
        }

        /** Each x of the range any number of times: row j then holds what has j of them. */
        private void addLikePowers(Form form, int t, int like, int reach) {
            for (int j = 1; j <= like; j++) {
                clear(j);
            }
            for (int x = form.low[t]; x <= form.high[t]; x++) {
                int shift = form.valueOf(t, x) - form.least[t];
                for (int j = 1; j <= like; j++) {
                    addShifted(j, j - 1, shift, reach + (j - 1) * form.spread(t));
                }
            }
            clear(0);
            addShifted(0, like, 0, top);
        }

        private void addShifted(int toRow, int fromRow, int shift, int reach) {
            int to = toRow * (top + 1);
            int from = fromRow * (top + 1) - shift;
            int end = Math.min(top, shift + reach);
            for (int u = shift; u <= end; u++) {
                cells[to + u] += cells[from + u];
            }
        }

        /** Ranges of thousands are too dear one by one; rising x of a line are a quotient of short factors. */
        private void addLikeLines(int row, Form form, int t, int like) {
            int first = row * (top + 1);
            int last = first + top;
            int length = form.high[t] - form.low[t];
            for (int j = 1; j <= like; j++) {
                int cut = form.factor[t] * (length + j);
                for (int u = last; u >= first + cut; u--) {
                    cells[u] -= cells[u - cut];
                }
                int step = form.factor[t] * j;
                for (int u = first + step; u <= last; u++) {
                    cells[u] += cells[u - step];
                }
            }
        }
    }

    /** In how many ways the classes of one modulus are met, by all terms and by the last ones alone. */
    private static final class Classes {
        private final long[] counts;
        private final int[] hits;
        private int modulus;

        Classes() {
            counts = new long[(MOST_TERMS + 1) * MOST_MODULUS];
            hits = new int[MOST_MODULUS];
            modulus = 1;
        }

        void fill(Form form, int m) {
            modulus = Math.max(1, Math.min(m, MOST_MODULUS));
            for (int place = 0; place < counts.length; place++) {
                counts[place] = 0;
            }
            counts[form.count * MOST_MODULUS] = 1;
            for (int t = form.count - 1; t >= 0; t--) {
                takeHits(form, t);
                for (int v = 0; v < modulus; v++) {
                    if (hits[v] > 0) {
                        addHits(t, v);
                    }
                }
            }
        }

        /** Rows of x of the terms from t on by whose values class r is met. */
        long rowsFrom(int t, int r) {
            int place = t * MOST_MODULUS + r;
            return place >= 0 && place < counts.length ? counts[place] : 0;
        }

        /** The x of term i in the first row that meets class r; NONE if there is no such row. */
        int firstRow(Form form, int r, int i) {
            int left = r;
            for (int t = 0; t <= i && t < form.count; t++) {
                int x = firstX(form, t, left);
                if (x == NONE || t == i) {
                    return x;
                }
                left = Math.floorMod(left - remainder(form, t, x), modulus);
            }
            return NONE;
        }

        private int firstX(Form form, int t, int left) {
            for (int x = 0; x < rowLength(form, t); x++) {
                if (rowsFrom(t + 1, Math.floorMod(left - remainder(form, t, x), modulus)) > 0) {
                    return x;
                }
            }
            return NONE;
        }

        private void takeHits(Form form, int t) {
            for (int v = 0; v < modulus; v++) {
                hits[v] = 0;
            }
            for (int x = 0; x < rowLength(form, t); x++) {
                hits[remainder(form, t, x)]++;
            }
        }

        private void addHits(int t, int v) {
            int to = t * MOST_MODULUS;
            int from = to + MOST_MODULUS;
            for (int r = 0; r < modulus; r++) {
                int sum = r + v < modulus ? r + v : r + v - modulus;
                counts[to + sum] += hits[v] * counts[from + r];
            }
        }

        /** Halves make the values of a three repeat only after twice the modulus. */
        private int rowLength(Form form, int t) {
            return form.kind[t] == THREE ? 2 * modulus : modulus;
        }

        private int remainder(Form form, int t, int x) {
            return (int) Math.floorMod(powerValue(form.kind[t], form.factor[t], x), (long) modulus);
        }
    }

    /** All sums of the terms added, each a bit; bit 0 is the least of them. */
    private static final class SumSet {
        private static final int WORDS = 2 * MOST_TERMS * LIMIT / 64 + 1;

        private long[] bits;
        private long[] spare;
        private int least;
        private int length;

        SumSet() {
            bits = new long[WORDS];
            spare = new long[WORDS];
        }

        /** The sum of no terms is 0. */
        void begin() {
            for (int w = 0; w < WORDS; w++) {
                bits[w] = 0;
            }
            bits[0] = 1;
            least = 0;
            length = 1;
        }

        void addTerm(Form form, int t) {
            length = Math.min(length + form.spread(t), 64 * WORDS);
            least += form.least[t];
            if (form.kind[t] == LINE) {
                addLine(form.factor[t], form.high[t] - form.low[t] + 1);
            } else {
                addPower(form, t);
            }
        }

        boolean holds(int sum) {
            int place = sum - least;
            return place >= 0 && place < length && (bits[place >> 6] >>> (place & 63) & 1L) == 1L;
        }

        private void addPower(Form form, int t) {
            for (int w = 0; w < WORDS; w++) {
                spare[w] = 0;
            }
            for (int x = form.low[t]; x <= form.high[t]; x++) {
                orShifted(spare, bits, form.valueOf(t, x) - form.least[t]);
            }
            long[] old = bits;
            bits = spare;
            spare = old;
        }

        /** Each step doubles how many of the x are covered. */
        private void addLine(int factor, int wanted) {
            for (int covered = 1; covered < wanted; covered += covered) {
                orShifted(bits, bits, factor * Math.min(covered, wanted - covered));
            }
        }

        /** From the highest word down, so that a set can be joined with itself shifted. */
        private void orShifted(long[] to, long[] from, int shift) {
            int words = shift >> 6;
            int rest = shift & 63;
            int last = Math.min(WORDS - 1, (length - 1) >> 6);
            for (int w = last; w >= words; w--) {
                long moved = from[w - words] << rest;
                if (rest > 0 && w > words) {
                    moved |= from[w - words - 1] >>> (64 - rest);
                }
                to[w] |= moved;
            }
        }
    }

    /** Reads a form off the tape into its draft. */
    private static final class FormReader {
        private final Tape tape;
        private final Form draft;

        FormReader(Tape tape) {
            this.tape = tape;
            draft = new Form();
        }

        boolean readAll() {
            draft.count = 0;
            tape.begin(0, NONE);
            for (int t = 0; t < MOST_TERMS; t++) {
                tape.outer = t;
                if (!readTerm()) {
                    return false;
                }
                if (tape.isEnd()) {
                    return true;
                }
                if (!tape.isSign('+')) {
                    return tape.fail(FAULT_STAND);
                }
                tape.advance();
            }
            tape.outer = MOST_TERMS;
            return checkFirstToken() && tape.fail(FAULT_TERMS);
        }

        private boolean checkFirstToken() {
            if (tape.isN()) {
                boolean fits = tape.amount() >= 1 && tape.amount() <= MOST_FACTOR;
                return fits || tape.fail(FAULT_FACTOR);
            }
            return tape.kindThere() != NONE || tape.fail(FAULT_STAND);
        }

        private boolean readTerm() {
            if (!checkFirstToken()) {
                return false;
            }
            int factor = 1;
            if (tape.isN()) {
                factor = tape.amount();
                tape.advance();
            }
            int kind = tape.kindThere();
            if (kind == NONE) {
                return tape.fail(FAULT_STAND);
            }
            tape.advance();
            if (tape.isWord("from")) {
                return readRange(factor, kind);
            }
            draft.addNew(factor, kind, 0, greatestX(kind, factor));
            return true;
        }

        private boolean readRange(int factor, int kind) {
            tape.advance();
            if (!readBound(factor, kind, -LIMIT)) {
                return false;
            }
            int low = tape.whole;
            tape.advance();
            if (!tape.isWord("to")) {
                return tape.fail(FAULT_STAND);
            }
            tape.advance();
            if (!readBound(factor, kind, low)) {
                return false;
            }
            draft.addNew(factor, kind, low, tape.whole);
            tape.advance();
            return true;
        }

        /** No x below -3000 has a value that isn't beyond. */
        private boolean readBound(int factor, int kind, int least) {
            if (!tape.readWhole()) {
                return false;
            }
            boolean fits = tape.whole >= least && !isBeyond(powerValue(kind, factor, tape.whole));
            return fits || tape.fail(FAULT_RANGE);
        }
    }

    /** Reads a proof off the tape and tries each line of it on a form. */
    private static final class ProofReader {
        private final Tape tape;
        private final int[] told;
        private Form form;
        private long[] wayCounts;

        ProofReader(Tape tape) {
            this.tape = tape;
            told = new int[MOST_LINES];
        }

        /** How many lines; NONE with a fault. */
        int readAll(Form proved, long[] counts) {
            form = proved;
            wayCounts = counts;
            tape.begin(0, NONE);
            for (int line = 0; line <= MOST_LINES; line++) {
                tape.outer = line;
                if (tape.isEnd()) {
                    return line;
                }
                if (!readLine(line)) {
                    return NONE;
                }
            }
            return NONE;
        }

        private boolean readLine(int line) {
            boolean tooMany = line >= MOST_LINES;
            if (tooMany && tape.isSign('-')) {
                return tape.fail(FAULT_LINES);
            }
            if (!tape.readWhole()) {
                return false;
            }
            int n = tape.whole;
            if (!isNumber(n) || isTold(n, line)) {
                return tape.fail(FAULT_NUMBER);
            }
            if (tooMany) {
                return tape.fail(FAULT_LINES);
            }
            told[line] = n;
            tape.advance();
            if (tape.isSign('=')) {
                return readWay(n);
            }
            return tape.isWord("not") ? readNot(n) : tape.fail(FAULT_STAND);
        }

        private boolean isTold(int n, int lines) {
            for (int line = 0; line < lines && line < MOST_LINES; line++) {
                if (told[line] == n) {
                    return true;
                }
            }
            return false;
        }

        private boolean readNot(int n) {
            if (wayCounts[n + LIMIT] > 0) {
                return tape.fail(FAULT_UNTRUE);
            }
            tape.advance();
            if (!tape.isSign(';')) {
                return tape.fail(FAULT_STAND);
            }
            tape.advance();
            return true;
        }

        /** Looked at is the "=", and then each "," that another x must follow. */
        private boolean readWay(int n) {
            int sum = 0;
            for (int t = 0; t < form.count; t++) {
                tape.advance();
                if (!readX(t)) {
                    return false;
                }
                sum += form.valueOf(t, tape.whole);
                tape.advance();
                if (tape.isSign(';')) {
                    return endWay(t + 1, sum == n);
                }
                if (!tape.isSign(',')) {
                    return tape.fail(FAULT_STAND);
                }
            }
            tape.advance();
            tape.inner = form.count;
            return tape.fail(tape.beginsWhole() ? FAULT_X_COUNT : FAULT_STAND);
        }

        private boolean readX(int t) {
            tape.inner = t;
            if (!tape.readWhole()) {
                return false;
            }
            if (tape.whole < form.low[t] || tape.whole > form.high[t]) {
                return tape.fail(FAULT_X);
            }
            tape.inner = NONE;
            return true;
        }

        private boolean endWay(int xs, boolean isTrue) {
            if (xs < form.count) {
                return tape.fail(FAULT_X_COUNT);
            }
            if (!isTrue) {
                return tape.fail(FAULT_UNTRUE);
            }
            tape.advance();
            return true;
        }
    }

    /** Reads an identity off the tape, step by step. */
    private static final class IdentityReader {
        private final Tape tape;
        private Identity draft;

        IdentityReader(Tape tape) {
            this.tape = tape;
        }

        boolean readAll(Identity into) {
            draft = into;
            draft.clear();
            tape.begin(0, 0);
            if (!readSum(0)) {
                return false;
            }
            if (!tape.isSign('=')) {
                return tape.fail(FAULT_STAND);
            }
            draft.split = draft.size;
            tape.outer = 1;
            tape.advance();
            if (!readSum(0)) {
                return false;
            }
            return tape.isEnd() || tape.fail(FAULT_STAND);
        }

        private boolean readSum(int open) {
            if (!readProduct(open)) {
                return false;
            }
            for (int more = 0; more < MOST_PARTS; more++) {
                boolean plus = tape.isSign('+');
                if (!plus && !tape.isSign('-')) {
                    return true;
                }
                tape.advance();
                if (!readProduct(open)) {
                    return false;
                }
                draft.addJoint(plus ? PLUS : MINUS);
            }
            return tape.fail(FAULT_PARTS);
        }

        private boolean readProduct(int open) {
            if (!readPower(open)) {
                return false;
            }
            for (int more = 0; more < MOST_PARTS; more++) {
                if (!tape.isSign('*')) {
                    return true;
                }
                tape.advance();
                if (!readPower(open)) {
                    return false;
                }
                draft.addJoint(TIMES);
            }
            return tape.fail(FAULT_PARTS);
        }

        private boolean readPower(int open) {
            if (!readPart(open)) {
                return false;
            }
            if (!tape.isSign('^')) {
                return true;
            }
            tape.advance();
            if (!tape.isN()) {
                return tape.fail(FAULT_STAND);
            }
            if (tape.amount() > MOST_POWER) {
                return tape.fail(FAULT_POWER);
            }
            draft.addPower(tape.amount());
            tape.advance();
            return true;
        }

        private boolean readPart(int open) {
            int letter = tape.letterThere();
            boolean opens = tape.isSign('(');
            if (!tape.isN() && letter == NONE && !opens) {
                return tape.fail(FAULT_STAND);
            }
            if (opens && open >= MOST_OPEN) {
                return tape.fail(FAULT_OPEN);
            }
            if (draft.parts >= MOST_PARTS) {
                return tape.fail(FAULT_PARTS);
            }
            draft.parts++;
            if (opens) {
                return readInner(open + 1);
            }
            if (letter != NONE) {
                draft.addLetter(letter);
            } else {
                draft.addNumber(tape.amount());
            }
            tape.advance();
            return true;
        }

        private boolean readInner(int open) {
            tape.inner = open;
            tape.advance();
            if (!readSum(open)) {
                return false;
            }
            if (!tape.isSign(')')) {
                return tape.fail(FAULT_STAND);
            }
            tape.inner = open - 1;
            tape.advance();
            return true;
        }
    }

    /**
     * Both sides as steps, each behind those whose numbers it takes, and what was found when they were tried. From
     * row to row of a box most letters stay as they are, so only the steps that use another one are taken again.
     */
    private static final class Identity {
        private static final int SMALL = 2000000000;
        private static final int ALWAYS = 1 << LETTERS;
        private static final int ALL = 2 * ALWAYS - 1;

        private final int[] steps;
        private final int[] data;
        private final int[] left;
        private final int[] right;
        private final int[] uses;
        private final long[] numbers;
        private final boolean[] beyond;
        private final int[] open;
        private final int[] values;
        private final int[] brokenRows;
        private final int[] firstBroken;
        private final boolean[] firstBeyond;
        private final boolean[] boxKnown;
        private int size;
        private int height;
        private int split;
        private int letters;
        private int parts;
        private long result;

        Identity() {
            steps = new int[CODE_ROOM];
            data = new int[CODE_ROOM];
            left = new int[CODE_ROOM];
            right = new int[CODE_ROOM];
            uses = new int[CODE_ROOM];
            numbers = new long[CODE_ROOM];
            beyond = new boolean[CODE_ROOM];
            open = new int[CODE_ROOM];
            values = new int[LETTERS];
            brokenRows = new int[BOXES];
            firstBroken = new int[BOXES * LETTERS];
            firstBeyond = new boolean[BOXES];
            boxKnown = new boolean[BOXES];
        }

        void clear() {
            size = 0;
            height = 0;
            split = 0;
            letters = 0;
            parts = 0;
            for (int b = 0; b < BOXES; b++) {
                boxKnown[b] = false;
            }
        }

        boolean isThere() {
            return size > 0;
        }

        void addNumber(int number) {
            addStep(PUSH_N, number, ALWAYS);
        }

        void addLetter(int letter) {
            letters |= 1 << letter;
            addStep(PUSH_LETTER, letter, ALWAYS | 1 << letter);
        }

        void addPower(int power) {
            int base = takeOpen();
            left[size] = base;
            addStep(POWER, power, uses[base]);
        }

        void addJoint(int step) {
            int second = takeOpen();
            int first = takeOpen();
            left[size] = first;
            right[size] = second;
            addStep(step, 0, uses[first] | uses[second]);
        }

        private void addStep(int step, int datum, int used) {
            if (size >= CODE_ROOM - 1) {
                return;
            }
            steps[size] = step;
            data[size] = datum;
            uses[size] = used;
            open[height] = size;
            height++;
            size++;
        }

        /** The latest step whose number no other has taken yet. */
        private int takeOpen() {
            if (height < 1) {
                return 0;
            }
            height--;
            return open[height];
        }

        private boolean isUsed(int letter) {
            return (letters >> letter & 1) == 1;
        }

        int letterCount() {
            return Integer.bitCount(letters);
        }

        /** False if a number met is beyond longs; else the side's number is the result. */
        boolean evaluate(int side) {
            retake(ALL);
            int last = side == 0 ? split - 1 : size - 1;
            if (last < 0 || beyond[last]) {
                return false;
            }
            result = numbers[last];
            return true;
        }

        /** Tries all rows of numbers -b .. b, once for each b. */
        void tryBox(int b) {
            if (boxKnown[b]) {
                return;
            }
            boxKnown[b] = true;
            brokenRows[b] = 0;
            int rowCount = 1;
            for (int letter = 0; letter < LETTERS; letter++) {
                values[letter] = isUsed(letter) ? -b : 0;
                rowCount *= isUsed(letter) ? 2 * b + 1 : 1;
            }
            int changed = ALL;
            for (int row = 0; row < rowCount; row++) {
                retake(changed);
                int verdict = judgeRow();
                if (verdict != HOLDS) {
                    noteBroken(b, verdict);
                }
                changed = stepRow(b);
            }
        }

        private void noteBroken(int b, int verdict) {
            if (brokenRows[b] == 0) {
                firstBeyond[b] = verdict == BEYOND_LONGS;
                for (int letter = 0; letter < LETTERS; letter++) {
                    firstBroken[b * LETTERS + letter] = values[letter];
                }
            }
            brokenRows[b]++;
        }

        private int judgeRow() {
            int last = split - 1;
            int end = size - 1;
            if (last < 0 || beyond[last] || beyond[end]) {
                return BEYOND_LONGS;
            }
            return numbers[last] == numbers[end] ? HOLDS : UNLIKE_SIDES;
        }

        /** Which letters have another number in the next row. */
        private int stepRow(int b) {
            int changed = 0;
            for (int letter = LETTERS - 1; letter >= 0; letter--) {
                if (isUsed(letter)) {
                    changed |= 1 << letter;
                    if (values[letter] < b) {
                        values[letter]++;
                        return changed;
                    }
                    values[letter] = -b;
                }
            }
            return changed;
        }

        private void retake(int changed) {
            for (int i = 0; i < size; i++) {
                if ((uses[i] & changed) != 0) {
                    takeStep(i);
                }
            }
        }

        private void takeStep(int i) {
            int step = steps[i];
            boolean fits = true;
            if (step == PUSH_N) {
                result = data[i];
            } else if (step == PUSH_LETTER) {
                result = values[data[i]];
            } else if (step == POWER) {
                fits = !beyond[left[i]] && raise(numbers[left[i]], data[i]);
            } else {
                fits = !beyond[left[i]] && !beyond[right[i]] && combine(step, numbers[left[i]], numbers[right[i]]);
            }
            numbers[i] = result;
            beyond[i] = !fits;
        }

        private boolean combine(int step, long first, long second) {
            if (step == TIMES) {
                result = first * second;
                return productFits(first, second);
            }
            if (step == PLUS) {
                result = first + second;
                return ((first ^ result) & (second ^ result)) >= 0;
            }
            result = first - second;
            return ((first ^ second) & (first ^ result)) >= 0;
        }

        private boolean raise(long base, int power) {
            result = 1;
            for (int i = 0; i < power; i++) {
                if (!productFits(result, base)) {
                    return false;
                }
                result *= base;
            }
            return true;
        }

        private static boolean isSmall(long value) {
            return value >= -SMALL && value <= SMALL;
        }

        private static boolean productFits(long first, long second) {
            if (isSmall(first) && isSmall(second) || second == 0) {
                return true;
            }
            if (second == -1) {
                return first != LEAST_LONG;
            }
            return first * second / second == first;
        }
    }

    /** The text that was shown latest. */
    private static final class Page {
        private final byte[] signs;
        private int size;

        Page() {
            signs = new byte[PAGE_ROOM];
        }

        void putSign(char sign) {
            if (size < PAGE_ROOM) {
                signs[size] = (byte) sign;
                size++;
            }
        }

        void putText(String text) {
            for (int i = 0; i < text.length(); i++) {
                putSign(text.charAt(i));
            }
        }

        /** Four digits are enough: no number shown is beyond 3000. */
        void putInt(int value) {
            if (value < 0) {
                putSign('-');
            }
            int left = Math.abs(value);
            boolean begun = false;
            for (int unit = 1000; unit > 0; unit /= 10) {
                int digit = left / unit % 10;
                begun = begun || digit > 0 || unit == 1;
                if (begun) {
                    putSign((char) ('0' + digit));
                }
            }
        }
    }
}
