import java.util.Arrays;

/** Proofs by cutting over eight variables that are 0 or 1, as ../shared/DOC.md promises them. */
public final class SlackProofs {
    public static final int NONE = -1000000, BAD = -1000001, STATE = -1000002, FULL = -1000003;

    private static final int FINDINGS = -1000010, FAULTS = -1000100;
    private static final int NULL = 1, PLACE = 2, KIND = 3, SIZE = 4, STORE = 5, OVER = 6;

    /** The greatest long, written out as LANGUAGE.md lists functions of Long but no constants. */
    private static final long GREATEST = 9223372036854775807L;

    private static final int VARIABLES = 8, ALL_VALUES = 256, EVERY_VARIABLE = 255;
    private static final int MOST_CLAUSES = 30, MOST_GIVEN = 8, MOST_ACTS = 12, IMAGES = 2;
    private static final int MOST_ROWS = 8, MOST_ITEMS = 40, LANES = 3, MOST_BYTES = 200;
    private static final int MOST_TRACED = 16;

    private static final int CLAUSE = 0, GIVEN = 1, AXIOM = 2, BOUND = 3, DERIVED = 4, CLAIMED = 5;

    /** What a WITNESS puts from here on: a VARIABLE, its contrary, nothing more. */
    private static final int PUT_VARIABLE = 2, PUT_CONTRARY = 10, PUT_END = 18;

    private final Rows rows;
    private final Reader reader;
    private final Book book;
    private final Book[] images;
    private final Acts acts;
    private final Prover prover;
    private final Asker asker;
    private int finding;

    public SlackProofs() {
        rows = new Rows();
        reader = new Reader();
        book = new Book();
        images = new Book[IMAGES];
        for (int k = 0; k < IMAGES; k++) {
            images[k] = new Book();
        }
        acts = new Acts();
        prover = new Prover(book);
        asker = new Asker();
        finding = 0;
    }

    // ---- rows

    public int row(int row, int lane, int n) {
        if (!isRow(row) || lane < 0 || lane >= LANES || n > MOST_ITEMS) {
            return BAD;
        }
        if (n < 0) {
            return found(SIZE);
        }
        rows.make(row, lane, n);
        return well(n);
    }

    public int set(int row, int i, int v) {
        if (!isRow(row)) {
            return BAD;
        }
        if (rows.isMissing(row)) {
            return found(NULL);
        }
        if (i < 0 || i >= rows.sizes[row]) {
            return found(PLACE);
        }
        return well(rows.put(row, i, v));
    }

    public int copy(int a, int i, int b, int j, int n) {
        if (!isRow(a) || !isRow(b)) {
            return BAD;
        }
        if (rows.isMissing(a) || rows.isMissing(b)) {
            return found(NULL);
        }
        if (rows.lanes[a] != rows.lanes[b]) {
            return found(STORE);
        }
        if (!rows.hasPlaces(a, i, n) || !rows.hasPlaces(b, j, n)) {
            return found(PLACE);
        }
        System.arraycopy(rows.items[a], i, rows.items[b], j, n);
        return well(n);
    }

    public int drop(int row) {
        if (!isRow(row)) {
            return BAD;
        }
        if (rows.isMissing(row)) {
            return found(NULL);
        }
        return well(rows.lose(row));
    }

    // ---- formulas, steps

    public int feed(int letter) {
        if (letter < 0 || letter > 255) {
            return BAD;
        }
        if (reader.length >= MOST_BYTES) {
            return FULL;
        }
        return reader.take(letter);
    }

    public int formula() {
        if (!reader.readsFormula()) {
            return FAULTS - reader.place;
        }
        book.begin(reader.prices);
        for (int i = 0; i < reader.clauseCount; i++) {
            book.next().become(reader.clauses[i]);
            book.add(GIVEN);
        }
        acts.forget();
        return reader.clauseCount;
    }

    public int fault() {
        return reader.fault;
    }

    public int plus(int a, int b) {
        int refusal = stepRefusal(book.has(a) && book.has(b));
        if (refusal != 0) {
            return refusal;
        }
        if (!book.next().becomePlus(book.clauses[a], book.clauses[b])) {
            return found(OVER);
        }
        return well(comes(DERIVED));
    }

    public int times(int a, int k) {
        int refusal = stepRefusal(book.has(a) && k >= 1);
        if (refusal != 0) {
            return refusal;
        }
        if (!book.next().becomeTimes(book.clauses[a], k)) {
            return found(OVER);
        }
        return well(comes(DERIVED));
    }

    public int split(int a, int k) {
        int refusal = stepRefusal(book.has(a) && k >= 1);
        if (refusal != 0) {
            return refusal;
        }
        book.next().becomeSplit(book.clauses[a], k);
        return comes(DERIVED);
    }

    public int saturate(int a) {
        int refusal = stepRefusal(book.has(a));
        if (refusal != 0) {
            return refusal;
        }
        book.next().becomeSaturated(book.clauses[a]);
        return comes(DERIVED);
    }

    public int weaken(int a, int variable) {
        int refusal = stepRefusal(book.has(a) && isVariable(variable)
                && book.clauses[a].coefficients[variable] != 0);
        if (refusal != 0) {
            return refusal;
        }
        book.next().becomeWeakened(book.clauses[a], variable);
        return comes(DERIVED);
    }

    public int axiom(int variable, int which) {
        int refusal = stepRefusal(isVariable(variable) && (which == 0 || which == 1));
        if (refusal != 0) {
            return refusal;
        }
        Clause next = book.next();
        next.clear();
        next.coefficients[variable] = which == 1 ? 1 : -1;
        return comes(AXIOM);
    }

    public int claim() {
        if (!book.isRead) {
            return STATE;
        }
        return claimOfTape(-1);
    }

    public int witness(int row) {
        if (!book.isRead) {
            return STATE;
        }
        if (!isRow(row)) {
            return BAD;
        }
        if (rows.isMissing(row)) {
            return found(NULL);
        }
        if (!rows.isWitness(row)) {
            return found(PLACE);
        }
        return claimOfTape(row);
    }

    public int solution(int values) {
        if (!book.isRead) {
            return STATE;
        }
        if (!isSet(values)) {
            return BAD;
        }
        boolean isPriced = book.allPrices() > 0;
        if (isPriced && book.isFull()) {
            return FULL;
        }
        if (book.isBeyond()) {
            return found(OVER);
        }
        if (!book.allHold(values)) {
            return well(NONE);
        }
        acts.keep(book);
        book.best = book.priceOf(values);
        if (isPriced) {
            book.next().becomeBound(book.prices, book.allPrices(), book.best);
            book.add(BOUND);
        }
        return well(book.best);
    }

    public int remove(int a) {
        if (!book.isRead) {
            return STATE;
        }
        if (!book.has(a)) {
            return BAD;
        }
        if (!isOfKind(book.clauses[a].kind, DERIVED)) {
            if (book.isBeyond()) {
                return found(OVER);
            }
            if (!prover.followsFromOthers(a)) {
                return well(NONE);
            }
        }
        acts.keep(book);
        book.live &= ~(1 << a);
        return well(Integer.bitCount(book.live));
    }

    public int undo() {
        if (acts.size == 0) {
            return STATE;
        }
        return acts.takeBack(book);
    }

    // ---- what there is

    public long degree(int a) {
        return book.has(a) ? book.clauses[a].degree : BAD;
    }

    public long coefficient(int a, int variable) {
        return book.has(a) && isVariable(variable) ? book.clauses[a].coefficients[variable] : BAD;
    }

    public long sum(int a) {
        if (!book.has(a)) {
            return BAD;
        }
        if (book.clauses[a].isBeyond()) {
            return found(OVER);
        }
        finding = 0;
        return book.clauses[a].total();
    }

    public long slack(int a, int known, int values) {
        if (!book.has(a) || !isSet(known) || !isSet(values)) {
            return BAD;
        }
        if (book.clauses[a].isBeyond()) {
            return found(OVER);
        }
        finding = 0;
        return book.clauses[a].slackBy(known, values);
    }

    public int forced(int known, int values, int what) {
        if (!book.isRead) {
            return STATE;
        }
        if (!isSet(known) || !isSet(values) || what < 0 || what > 2) {
            return BAD;
        }
        if (book.isBeyond()) {
            return found(OVER);
        }
        boolean isConflict = prover.conflictByKnown(known, values);
        if (what == 0) {
            return well(isConflict ? 1 : 0);
        }
        if (isConflict) {
            return well(NONE);
        }
        return well(what == 1 ? prover.known : prover.ones);
    }

    public int solutions(int what) {
        if (!book.isRead) {
            return STATE;
        }
        if (what < 0 || what > 2) {
            return BAD;
        }
        if (book.isBeyond()) {
            return found(OVER);
        }
        return well(what == 0 ? book.countSolutions() : bestOfAll(what));
    }

    public int holds(int a) {
        if (!book.has(a)) {
            return BAD;
        }
        if (book.clauses[a].isBeyond()) {
            return found(OVER);
        }
        int count = 0;
        for (int values = 0; values < ALL_VALUES; values++) {
            if (book.clauses[a].holdsBy(values)) {
                count++;
            }
        }
        return well(count);
    }

    public int follows(int a) {
        if (!book.has(a)) {
            return BAD;
        }
        if (book.isBeyond()) {
            return found(OVER);
        }
        return well(prover.followsFromOthers(a) ? 1 : 0);
    }

    public int verdict() {
        if (!book.isRead) {
            return STATE;
        }
        // a sum that cannot be told is not passed over, even if another clause would settle it
        if (book.isBeyond()) {
            return found(OVER);
        }
        if (!book.hasImpossible()) {
            return well(0);
        }
        return well(book.best == NONE ? 1 : 2);
    }

    public int price(int variable) {
        return isVariable(variable) ? book.prices[variable] : BAD;
    }

    public int image(int k) {
        if (k < 0 || k >= IMAGES) {
            return BAD;
        }
        if (!book.isRead) {
            return STATE;
        }
        images[k].become(book);
        return Integer.bitCount(book.live);
    }

    public int restore(int k) {
        if (k < 0 || k >= IMAGES) {
            return BAD;
        }
        if (!images[k].isRead) {
            return STATE;
        }
        book.become(images[k]);
        acts.forget();
        return Integer.bitCount(book.live);
    }

    // ---- asked

    public int kind(int a) {
        return book.has(a) ? book.clauses[a].kind : BAD;
    }

    public int as(int a, int kind) {
        if (!book.has(a) || kind < CLAUSE || kind > CLAIMED) {
            return BAD;
        }
        if (!isOfKind(book.clauses[a].kind, kind)) {
            return found(KIND);
        }
        return well(a);
    }

    public int ask(int a, int what) {
        if (!book.has(a) || what < 0 || what > 1) {
            return BAD;
        }
        asker.length = 0;
        return what == 0 ? asker.sizeOf(book.clauses[a], 0) : asker.markOf(book.clauses[a], 0);
    }

    public int trace(int i) {
        return i >= 0 && i < asker.length ? asker.traced[i] : NONE;
    }

    public int count(int what) {
        switch (what) {
            case 0: return rows.countAll();
            case 1: return Integer.bitCount(book.live);
            case 2: return book.used;
            case 3: return book.live;
            case 4: return book.best;
            case 5: return book.allPrices();
            case 6: return acts.size;
            case 7: return reader.length;
            default: return BAD;
        }
    }

    public int status() {
        return finding;
    }

    // ---- what the calls share

    private int found(int number) {
        finding = number;
        return FINDINGS - number;
    }

    private int well(int answer) {
        finding = 0;
        return answer;
    }

    /** STATE, BAD, FULL in the order of steps; 0: the step may be tried. */
    private int stepRefusal(boolean isAsTold) {
        if (!book.isRead) {
            return STATE;
        }
        if (!isAsTold) {
            return BAD;
        }
        return book.isFull() ? FULL : 0;
    }

    /** The clause that was made in the next place stands from now on. */
    private int comes(int kind) {
        acts.keep(book);
        return book.add(kind);
    }

    /** A claim, by the WITNESS in a row; row -1: without one. */
    private int claimOfTape(int row) {
        if (!reader.readsClaim()) {
            return FAULTS - reader.place;
        }
        if (book.isFull()) {
            return FULL;
        }
        if (book.isBeyond()) {
            return found(OVER);
        }
        Clause claimed = reader.clauses[0];
        boolean isProved = row < 0 ? prover.followsFromAll(claimed)
                : prover.comesByWitness(claimed, rows.items[row]);
        if (!isProved) {
            return well(NONE);
        }
        book.next().become(claimed);
        return well(comes(CLAIMED));
    }

    private int bestOfAll(int what) {
        int values = book.bestValues();
        if (values == NONE) {
            return NONE;
        }
        return what == 1 ? book.priceOf(values) : values;
    }

    private static boolean isRow(int row) {
        return row >= 0 && row < MOST_ROWS;
    }

    private static boolean isVariable(int variable) {
        return variable >= 0 && variable < VARIABLES;
    }

    private static boolean isSet(int bits) {
        return bits >= 0 && bits <= EVERY_VARIABLE;
    }

    private static boolean isOfKind(int own, int kind) {
        return kind == CLAUSE || own == kind
                || kind == GIVEN && (own == AXIOM || own == BOUND)
                || kind == DERIVED && own == CLAIMED;
    }

    /** The rows, made once and used again; a size of -1 says that one is missing. */
    private static final class Rows {
        final int[][] items = new int[MOST_ROWS][MOST_ITEMS];
        final int[] lanes = new int[MOST_ROWS];
        final int[] sizes = new int[MOST_ROWS];

        Rows() {
            Arrays.fill(sizes, -1);
        }

        boolean isMissing(int row) {
            return sizes[row] < 0;
        }

        void make(int row, int lane, int n) {
            Arrays.fill(items[row], 0);
            lanes[row] = lane;
            sizes[row] = n;
        }

        int put(int row, int i, int v) {
            int kept = v;
            if (lanes[row] == 0) {
                kept = (byte) v;
            } else if (lanes[row] == 1) {
                kept = (short) v;
            }
            items[row][i] = kept;
            return kept;
        }

        /** Compared by a difference, as i and n together may be beyond an int. */
        boolean hasPlaces(int row, int i, int n) {
            return i >= 0 && n >= 0 && i <= sizes[row] && n <= sizes[row] - i;
        }

        int lose(int row) {
            int had = sizes[row];
            sizes[row] = -1;
            return had;
        }

        boolean isWitness(int row) {
            if (sizes[row] < VARIABLES) {
                return false;
            }
            for (int v = 0; v < VARIABLES; v++) {
                if (items[row][v] < 0 || items[row][v] >= PUT_END) {
                    return false;
                }
            }
            return true;
        }

        int countAll() {
            int count = 0;
            for (int row = 0; row < MOST_ROWS; row++) {
                if (!isMissing(row)) {
                    count++;
                }
            }
            return count;
        }
    }

    /** A clause; a coefficient below 0 is that of the contrary, so that one number tells both. */
    private static final class Clause {
        final long[] coefficients = new long[VARIABLES];
        final int number;
        long degree;
        int kind;

        Clause(int number) {
            this.number = number;
        }

        void clear() {
            Arrays.fill(coefficients, 0);
            degree = 0;
        }

        void become(Clause other) {
            System.arraycopy(other.coefficients, 0, coefficients, 0, VARIABLES);
            degree = other.degree;
            kind = other.kind;
        }

        /** Whether the numbers stay within a long. */
        boolean becomePlus(Clause a, Clause b) {
            if (a.degree > GREATEST - b.degree) {
                return false;
            }
            System.arraycopy(a.coefficients, 0, coefficients, 0, VARIABLES);
            degree = a.degree + b.degree;
            for (int v = 0; v < VARIABLES; v++) {
                if (!joins(v, b.coefficients[v])) {
                    return false;
                }
            }
            return true;
        }

        /**
         * One literal more, that adds up or cancels; false: beyond a long. The degree only sinks
         * here, so it may be kept at 0 each time; what raises it must have come ahead.
         */
        boolean joins(int variable, long weight) {
            long old = coefficients[variable];
            if (old != 0 && weight != 0 && (old > 0) != (weight > 0)) {
                degree = Math.max(0, degree - Math.min(Math.abs(old), Math.abs(weight)));
            } else if (Math.abs(old) > GREATEST - Math.abs(weight)) {
                return false;
            }
            coefficients[variable] = old + weight;
            return true;
        }

        /** Whether the numbers stay within a long. */
        boolean becomeTimes(Clause a, int k) {
            if (k < 1) {
                return false;
            }
            long most = GREATEST / k;
            if (a.degree > most) {
                return false;
            }
            degree = a.degree * k;
            for (int v = 0; v < VARIABLES; v++) {
                if (Math.abs(a.coefficients[v]) > most) {
                    return false;
                }
                coefficients[v] = a.coefficients[v] * k;
            }
            return true;
        }

        void becomeSplit(Clause a, int k) {
            degree = splitUp(a.degree, k);
            for (int v = 0; v < VARIABLES; v++) {
                coefficients[v] = splitUp(a.coefficients[v], k);
            }
        }

        /** Away from 0, as a number below 0 is a coefficient of the contrary. */
        static long splitUp(long number, int k) {
            if (k < 1) {
                return number;
            }
            long cut = number / k;
            if (number % k == 0) {
                return cut;
            }
            return number > 0 ? cut + 1 : cut - 1;
        }

        void becomeSaturated(Clause a) {
            degree = a.degree;
            for (int v = 0; v < VARIABLES; v++) {
                coefficients[v] = Math.max(-degree, Math.min(degree, a.coefficients[v]));
            }
        }

        void becomeWeakened(Clause a, int variable) {
            System.arraycopy(a.coefficients, 0, coefficients, 0, VARIABLES);
            degree = Math.max(0, a.degree - Math.abs(a.coefficients[variable]));
            coefficients[variable] = 0;
        }

        /** That a price is less than the best one. */
        void becomeBound(int[] prices, int allPrices, int best) {
            for (int v = 0; v < VARIABLES; v++) {
                coefficients[v] = -prices[v];
            }
            degree = allPrices - best + 1;
        }

        void becomeContrary(Clause a) {
            for (int v = 0; v < VARIABLES; v++) {
                coefficients[v] = -a.coefficients[v];
            }
            long rest = a.total() - a.degree;
            degree = rest < 0 ? 0 : rest + 1;
        }

        /** The clause a with a witness put; its numbers cannot grow beyond the sum of a. */
        void becomePut(Clause a, int[] witness) {
            clear();
            degree = a.degree;
            for (int v = 0; v < VARIABLES; v++) {
                long weight = a.coefficients[v];
                if (weight != 0) {
                    joinsPut(weight > 0 ? witness[v] : contraryOf(witness[v]), Math.abs(weight));
                }
            }
        }

        /** That the price is not raised: all prices of variables, and of the contraries of what is put. */
        void becomePriceKept(int[] prices, int[] witness) {
            clear();
            for (int v = 0; v < VARIABLES; v++) {
                degree += prices[v];
            }
            for (int v = 0; v < VARIABLES; v++) {
                joins(v, prices[v]);
                joinsPut(contraryOf(witness[v]), prices[v]);
            }
        }

        void joinsPut(int put, long weight) {
            if (put == 1) {
                degree = Math.max(0, degree - weight);
            } else if (put >= PUT_CONTRARY && put < PUT_END) {
                joins(put - PUT_CONTRARY, -weight);
            } else if (put >= PUT_VARIABLE && put < PUT_CONTRARY) {
                joins(put - PUT_VARIABLE, weight);
            }
        }

        static int contraryOf(int put) {
            if (put < PUT_VARIABLE) {
                return 1 - put;
            }
            return put < PUT_CONTRARY ? put + VARIABLES : put - VARIABLES;
        }

        /** The sum; -1: it is beyond a long. */
        long total() {
            long sum = 0;
            for (int v = 0; v < VARIABLES; v++) {
                long weight = Math.abs(coefficients[v]);
                if (sum > GREATEST - weight) {
                    return -1;
                }
                sum += weight;
            }
            return sum;
        }

        boolean isBeyond() {
            return total() < 0;
        }

        /** Only of a clause that is not beyond. */
        long slackBy(int known, int values) {
            long sum = 0;
            for (int v = 0; v < VARIABLES; v++) {
                boolean isOne = (values >>> v & 1) == 1;
                boolean isFree = (known >>> v & 1) == 0;
                if (isFree || isOne == coefficients[v] > 0) {
                    sum += Math.abs(coefficients[v]);
                }
            }
            return sum - degree;
        }

        boolean holdsBy(int values) {
            return slackBy(EVERY_VARIABLE, values) >= 0;
        }

        int countVariables() {
            int count = 0;
            for (int v = 0; v < VARIABLES; v++) {
                if (coefficients[v] != 0) {
                    count++;
                }
            }
            return count;
        }

        int leastVariable() {
            for (int v = 0; v < VARIABLES; v++) {
                if (coefficients[v] != 0) {
                    return v;
                }
            }
            return VARIABLES;
        }
    }

    /** All that an image keeps. A clause is never changed in its place while its number is used. */
    private static final class Book {
        final Clause[] clauses = new Clause[MOST_CLAUSES];
        final int[] prices = new int[VARIABLES];
        boolean isRead;
        int used;
        int live;
        int best = NONE;

        Book() {
            for (int a = 0; a < MOST_CLAUSES; a++) {
                clauses[a] = new Clause(a);
            }
        }

        void begin(int[] newPrices) {
            System.arraycopy(newPrices, 0, prices, 0, VARIABLES);
            isRead = true;
            used = 0;
            live = 0;
            best = NONE;
        }

        void become(Book other) {
            begin(other.prices);
            for (int a = 0; a < other.used; a++) {
                clauses[a].become(other.clauses[a]);
            }
            used = other.used;
            live = other.live;
            best = other.best;
        }

        boolean has(int a) {
            return a >= 0 && a < used && isLive(a);
        }

        boolean isLive(int a) {
            return (live >>> a & 1) == 1;
        }

        boolean isFull() {
            return used >= MOST_CLAUSES;
        }

        /** The place that the next clause is made in; only if it is not full. */
        Clause next() {
            return clauses[used];
        }

        int add(int kind) {
            clauses[used].kind = kind;
            live |= 1 << used;
            used++;
            return used - 1;
        }

        boolean isBeyond() {
            for (int a = 0; a < used; a++) {
                if (isLive(a) && clauses[a].isBeyond()) {
                    return true;
                }
            }
            return false;
        }

        boolean hasImpossible() {
            for (int a = 0; a < used; a++) {
                if (isLive(a) && clauses[a].degree > clauses[a].total()) {
                    return true;
                }
            }
            return false;
        }

        boolean allHold(int values) {
            for (int a = 0; a < used; a++) {
                if (isLive(a) && !clauses[a].holdsBy(values)) {
                    return false;
                }
            }
            return true;
        }

        int countSolutions() {
            int count = 0;
            for (int values = 0; values < ALL_VALUES; values++) {
                if (allHold(values)) {
                    count++;
                }
            }
            return count;
        }

        /** The first values of the least price; NONE. */
        int bestValues() {
            int first = NONE;
            for (int values = 0; values < ALL_VALUES; values++) {
                if ((first == NONE || priceOf(values) < priceOf(first)) && allHold(values)) {
                    first = values;
                }
            }
            return first;
        }

        int priceOf(int values) {
            int sum = 0;
            for (int v = 0; v < VARIABLES; v++) {
                if ((values >>> v & 1) == 1) {
                    sum += prices[v];
                }
            }
            return sum;
        }

        int allPrices() {
            return priceOf(EVERY_VARIABLE);
        }
    }

    /**
     * What stood ahead of the latest acts. Clauses need no copy: an act only adds behind them or
     * takes one from the live ones.
     */
    private static final class Acts {
        final int[] used = new int[MOST_ACTS];
        final int[] live = new int[MOST_ACTS];
        final int[] best = new int[MOST_ACTS];
        int oldest;
        int size;

        void forget() {
            oldest = 0;
            size = 0;
        }

        void keep(Book book) {
            if (size == MOST_ACTS) {
                oldest = (oldest + 1) % MOST_ACTS;
                size--;
            }
            int place = (oldest + size) % MOST_ACTS;
            used[place] = book.used;
            live[place] = book.live;
            best[place] = book.best;
            size++;
        }

        /** Only if there is one: how many are left. */
        int takeBack(Book book) {
            size--;
            int place = (oldest + size) % MOST_ACTS;
            book.used = used[place];
            book.live = live[place];
            book.best = best[place];
            return size;
        }
    }

    /** The tape and what is read from it; nothing of the book is touched by reading. */
    private static final class Reader {
        static final int CANNOT_STAND = 1, NOT_AS_TOLD = 2, NO_ROOM = 3;
        static final int END = -1;

        final int[] tape = new int[MOST_BYTES];
        final Clause[] clauses = new Clause[MOST_GIVEN];
        final int[] prices = new int[VARIABLES];
        int length;
        int end;
        int clauseCount;
        int place;
        int fault;
        int number;

        Reader() {
            for (int i = 0; i < MOST_GIVEN; i++) {
                clauses[i] = new Clause(i);
            }
        }

        int take(int letter) {
            if (length < MOST_BYTES) {
                tape[length] = letter;
                length++;
            }
            return length;
        }

        /** The tape is empty from here on for all that is fed; what was fed is read yet. */
        void begin() {
            end = length;
            length = 0;
            place = 0;
            clauseCount = 0;
            Arrays.fill(prices, 0);
        }

        boolean readsFormula() {
            begin();
            return readsClauses() && readsPrices();
        }

        boolean readsClaim() {
            begin();
            return readsClause(clauses[0]) && (letter() == END || faulty(CANNOT_STAND));
        }

        boolean readsClauses() {
            for (int i = 0; i <= MOST_GIVEN; i++) {
                boolean isBegun = letter() == 'p' || letter() == 'n' || letter() == 'g';
                if (!isBegun && clauseCount > 0) {
                    return true;
                }
                if (isBegun && clauseCount == MOST_GIVEN) {
                    return faulty(NO_ROOM);
                }
                if (!readsClause(clauses[clauseCount])) {
                    return false;
                }
                clauseCount++;
            }
            return false;
        }

        boolean readsClause(Clause into) {
            into.clear();
            int seen = 0;
            for (int i = 0; i <= VARIABLES; i++) {
                int letter = letter();
                if (letter == 'g') {
                    return readsDegree(into);
                }
                if (letter != 'p' && letter != 'n') {
                    return faulty(CANNOT_STAND);
                }
                place++;
                if (!takesNumber(0, VARIABLES - 1, seen)) {
                    return false;
                }
                int variable = number;
                seen |= 1 << variable;
                if (!takes(',') || !takesNumber(1, 99, 0) || !takes(';')) {
                    return false;
                }
                into.coefficients[variable] = letter == 'p' ? number : -number;
            }
            return false;
        }

        boolean readsDegree(Clause into) {
            place++;
            if (!takesNumber(0, 99, 0)) {
                return false;
            }
            into.degree = number;
            return takes(';');
        }

        boolean readsPrices() {
            int seen = 0;
            for (int i = 0; i <= VARIABLES; i++) {
                if (letter() == END) {
                    return true;
                }
                if (!takes('m') || !takesNumber(0, VARIABLES - 1, seen)) {
                    return false;
                }
                int variable = number;
                seen |= 1 << variable;
                if (!takes(',') || !takesNumber(1, 9, 0) || !takes(';')) {
                    return false;
                }
                prices[variable] = number;
            }
            return false;
        }

        int letter() {
            return place < end ? tape[place] : END;
        }

        boolean takes(int sign) {
            if (letter() != sign) {
                return faulty(CANNOT_STAND);
            }
            place++;
            return true;
        }

        /** A number from least to most that is not among those seen (bits, of variables alone). */
        boolean takesNumber(int least, int most, int seen) {
            int figures = 0;
            number = 0;
            for (int at = place; at < end && figures < 3 && isFigure(tape[at]); at++) {
                number = number * 10 + tape[at] - '0';
                figures++;
            }
            if (figures < 1 || figures > 2) {
                return faulty(CANNOT_STAND);
            }
            if (number < least || number > most || seen != 0 && (seen >>> number & 1) == 1) {
                return faulty(NOT_AS_TOLD);
            }
            place += figures;
            return true;
        }

        static boolean isFigure(int letter) {
            return letter >= '0' && letter <= '9';
        }

        boolean faulty(int what) {
            fault = what;
            return false;
        }
    }

    /** What is forced by the live clauses of the book, and what follows by that; only if no sum is beyond. */
    private static final class Prover {
        final Book book;
        final Clause nothing = new Clause(-1);
        final Clause contrary = new Clause(-1);
        final Clause claimContrary = new Clause(-1);
        final Clause put = new Clause(-1);
        int known;
        int ones;

        Prover(Book book) {
            this.book = book;
        }

        boolean conflictByKnown(int givenKnown, int values) {
            known = givenKnown;
            ones = givenKnown & values;
            return drives(book.live, nothing, nothing);
        }

        boolean followsFromAll(Clause clause) {
            return followsFrom(clause, book.live, nothing);
        }

        boolean followsFromOthers(int a) {
            return followsFrom(book.clauses[a], book.live & ~(1 << a), nothing);
        }

        boolean comesByWitness(Clause claimed, int[] witness) {
            claimContrary.becomeContrary(claimed);
            for (int a = 0; a < book.used; a++) {
                if (book.isLive(a)) {
                    put.becomePut(book.clauses[a], witness);
                    if (!followsFrom(put, book.live, claimContrary)) {
                        return false;
                    }
                }
            }
            put.becomePut(claimed, witness);
            if (!followsFrom(put, book.live, claimContrary)) {
                return false;
            }
            if (book.allPrices() == 0) {
                return true;
            }
            put.becomePriceKept(book.prices, witness);
            return followsFrom(put, book.live, claimContrary);
        }

        /** From clauses of the book (bits) and one beside them. */
        boolean followsFrom(Clause clause, int members, Clause beside) {
            if (clause.degree == 0) {
                return true;
            }
            contrary.becomeContrary(clause);
            known = 0;
            ones = 0;
            return drives(members, beside, contrary);
        }

        /** Whether there is a conflict; each round but the last one makes a variable known. */
        boolean drives(int members, Clause beside, Clause last) {
            for (int round = 0; round <= VARIABLES; round++) {
                int before = known;
                for (int a = 0; a < book.used; a++) {
                    if ((members >>> a & 1) == 1 && conflicts(book.clauses[a])) {
                        return true;
                    }
                }
                if (conflicts(beside) || conflicts(last)) {
                    return true;
                }
                if (known == before) {
                    return false;
                }
            }
            return false;
        }

        /** Whether the clause is in conflict with what is known; else what it forces becomes known. */
        boolean conflicts(Clause clause) {
            long slack = clause.slackBy(known, ones);
            if (slack < 0) {
                return true;
            }
            for (int v = 0; v < VARIABLES; v++) {
                boolean isFree = (known >>> v & 1) == 0;
                if (isFree && Math.abs(clause.coefficients[v]) > slack) {
                    known |= 1 << v;
                    if (clause.coefficients[v] > 0) {
                        ones |= 1 << v;
                    }
                }
            }
            return false;
        }
    }

    /** The asks; the depth is carried as size and mark may ask one another. */
    private static final class Asker {
        static final int DEEPEST = 8;

        final int[] traced = new int[MOST_TRACED];
        int length;

        void begins(int body) {
            if (length < MOST_TRACED) {
                traced[length] = body;
                length++;
            }
        }

        int sizeOf(Clause clause, int depth) {
            if (depth > DEEPEST) {
                return 0;
            }
            switch (clause.kind) {
                case GIVEN:
                case BOUND: return sizeOfGiven(clause, depth);
                case AXIOM: return sizeOfAxiom(clause, depth);
                case DERIVED: return sizeOfDerived(clause);
                case CLAIMED: return sizeOfClaimed(clause);
                default: return sizeOfAny(clause);
            }
        }

        int sizeOfAny(Clause clause) {
            begins(10);
            return clause.countVariables();
        }

        int sizeOfGiven(Clause clause, int depth) {
            begins(11);
            int size = sizeOfAny(clause);
            return size + markOf(clause, depth + 1);
        }

        int sizeOfAxiom(Clause clause, int depth) {
            begins(12);
            return -sizeOfGiven(clause, depth);
        }

        int sizeOfDerived(Clause clause) {
            begins(13);
            return sizeOfAny(clause) - 100;
        }

        int sizeOfClaimed(Clause clause) {
            begins(14);
            return 2 * sizeOfDerived(clause);
        }

        int markOf(Clause clause, int depth) {
            if (depth > DEEPEST) {
                return 0;
            }
            switch (clause.kind) {
                case GIVEN: return markOfGiven(clause);
                case AXIOM: return markOfAxiom(clause);
                case BOUND: return markOfBound(clause);
                case DERIVED:
                case CLAIMED: return markOfDerived(clause, depth);
                default: return markOfAny(clause);
            }
        }

        int markOfAny(Clause clause) {
            begins(20);
            return clause.number;
        }

        int markOfGiven(Clause clause) {
            begins(21);
            return markOfAny(clause) + clause.leastVariable();
        }

        int markOfBound(Clause clause) {
            begins(22);
            return markOfGiven(clause) - 1000;
        }

        int markOfDerived(Clause clause, int depth) {
            begins(23);
            int mark = markOfAny(clause);
            return mark - sizeOf(clause, depth + 1);
        }

        int markOfAxiom(Clause clause) {
            begins(24);
            return 2 * markOfGiven(clause);
        }
    }
}
