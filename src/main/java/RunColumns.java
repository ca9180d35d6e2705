import java.util.Arrays;

/**
 * A bitmap index over rows of four columns. The document ../shared/DOC.md says what each call
 * promises; the words ROWS, MARKS, SEEN, PLAN, BOOK, TAPES and so on are its words.
 */
public final class RunColumns {

    public static final int NONE = -1, BAD = -2, STATE = -3, FULL = -4;
    public static final long NO = Long.MIN_VALUE;

    private static final int NOTHING = -11, CAST = -12, PLACE = -13, SIZE = -14;

    /** The answer of a question that has none, though all its numbers are as told. */
    private static final int NO_ANSWER = -5;
    private static final int FAULT_BASE = -10;
    private static final int ONES_BASE = -10;
    private static final int JUDGED_BASE = 1000;

    private static final int COLUMNS = 4, VALUES = 16, SLICES = 4;
    /** What a column has BITS of: each of its values, and behind these its slices. */
    private static final int KINDS = VALUES + SLICES;

    private static final int MOST_ROWS = 120, MOST_MARKS = 10, MOST_QUERIES = 8, MOST_TEXT = 100;
    private static final int MOST_SEEN = 6, MOST_PLAN = 10, MOST_BOOK = 8;
    private static final int TAPES = 6, MOST_ITEMS = 60, LAST_SIGN = 127;
    /** How many bits a long has; two of them have room for all rows. */
    private static final int WORD = 64;

    /** A not or a ( stands within so many others at most. */
    private static final int MOST_WITHIN = 6;
    /** Seven levels (none to six within), each with the ahead part of an or and of an and, and one more. */
    private static final int MOST_PARTS = 2 * (MOST_WITHIN + 1) + 1;
    /** Each step of a query stands for two bytes of its text or more. */
    private static final int MOST_STEPS = MOST_TEXT / 2;

    private static final int ALL = 0, IS = 1, BELOW = 2, IN = 3, NOT = 4, AND = 5, OR = 6;
    private static final int LAST_ROW_GOES = 0, LIKE_ROW_COMES = 1, BACK_TO_MARK = 2;
    private static final int BYTES = 0, SHORTS = 1, INTS = 2, BOOLEANS = 4;

    private final State now = new State();
    private final State imaged = new State();
    private boolean hasImage = false;

    private final Reader reader = new Reader();
    private final Query[] queries = new Query[MOST_QUERIES];
    private int queryCount = 0;
    private final Tape[] tapes = new Tape[TAPES];

    // Made once and used by call after call, so that no call makes an object.
    private final Work work = new Work();
    private final Work otherWork = new Work();
    private final Bits scratch = new Bits();
    private final Groups groups = new Groups();
    private final Rows trial = new Rows();

    public RunColumns() {
        for (int i = 0; i < MOST_QUERIES; i++) {
            queries[i] = new Query();
        }
        for (int i = 0; i < TAPES; i++) {
            tapes[i] = new Tape();
        }
    }

    // ---- rows, marks

    public int add(int a, int b, int c, int d) {
        if (!isValue(a) || !isValue(b) || !isValue(c) || !isValue(d)) {
            return BAD;
        }
        if (now.rows.isFull()) {
            return FULL;
        }
        now.rows.append(a, b, c, d);
        return now.rows.size - 1;
    }

    public int at(int row, int column) {
        if (!now.rows.hasRow(row) || !isColumn(column)) {
            return NONE;
        }
        return now.rows.valueOf(row, column);
    }

    public int mark() {
        if (now.markCount >= MOST_MARKS) {
            return FULL;
        }
        now.marks[now.markCount] = now.rows.size;
        now.markCount++;
        return now.markCount - 1;
    }

    public int back(int mark) {
        if (!now.hasMark(mark)) {
            return NONE;
        }
        int before = now.rows.size;
        now.rows.cutTo(now.marks[mark]);
        now.markCount = mark + 1;
        return before - now.rows.size;
    }

    public int runs(int column, int v) {
        if (!isColumn(column) || !isKind(v)) {
            return NONE;
        }
        return now.rows.bitsOf(column, v).runsWithin(now.rows.size);
    }

    public int run(int column, int v, int k) {
        if (!isColumn(column) || !isKind(v) || k < 0) {
            return NONE;
        }
        Bits bits = now.rows.bitsOf(column, v);
        int size = now.rows.size;
        int start = bits.startOfRun(k, size);
        if (start < 0) {
            return NO_ANSWER;
        }
        int length = bits.endOfRun(start, size) - start;
        return bits.has(start) ? ONES_BASE - length : length;
    }

    // ---- queries

    public int feed(int sign) {
        if (sign < 0 || sign > LAST_SIGN) {
            return BAD;
        }
        if (reader.length >= MOST_TEXT) {
            return FULL;
        }
        reader.append(sign);
        return reader.length;
    }

    public int query() {
        if (queryCount >= MOST_QUERIES) {
            return FULL;
        }
        int fault = reader.readInto(queries[queryCount]);
        reader.length = 0;
        if (fault >= 0) {
            return FAULT_BASE - fault;
        }
        queryCount++;
        return queryCount - 1;
    }

    public int of(int query, int what) {
        if (!isQuery(query)) {
            return NONE;
        }
        work.goThrough(queries[query], now.rows);
        Bits result = work.result();
        int size = now.rows.size;
        switch (what) {
            case 0: return result.ones();
            case 1: return result.runsWithin(size);
            case 2: return work.cost();
            case 3: return result.placeOfOne(0, size);
            case 4: return result.placeOfOne(result.ones() - 1, size);
            case 5: return queries[query].stepsBetween(ALL, IN);
            case 6: return queries[query].stepsBetween(NOT, NOT);
            case 7: return work.depth();
            default: return NONE;
        }
    }

    public int row(int query, int k) {
        if (!isQuery(query) || k < 0) {
            return NONE;
        }
        return resultOf(query).placeOfOne(k, now.rows.size);
    }

    public int group(int query, int column, int v) {
        if (!isQuery(query) || !isColumn(column) || !isValue(v)) {
            return NONE;
        }
        groups.fill(resultOf(query), now.rows, column);
        return groups.sizes[v];
    }

    public int edge(int query, int column, int what) {
        if (!isQuery(query) || !isColumn(column)) {
            return NONE;
        }
        groups.fill(resultOf(query), now.rows, column);
        switch (what) {
            case 0: return groups.least();
            case 1: return groups.greatest();
            case 2: return groups.middle();
            case 3: return groups.unlike();
            case 4: return groups.greatestGroup();
            default: return NONE;
        }
    }

    public int two(int query, int other, int what) {
        if (!isQuery(query) || !isQuery(other)) {
            return NONE;
        }
        otherWork.goThrough(queries[other], now.rows);
        Bits first = resultOf(query);
        Bits second = otherWork.result();
        scratch.become(first);
        scratch.keepThoseOf(second);
        int inBoth = scratch.ones();
        int inFirst = first.ones();
        int inSecond = second.ones();
        switch (what) {
            case 0: return inBoth;
            case 1: return inFirst + inSecond - inBoth;
            case 2: return inFirst - inBoth;
            case 3: return inFirst == inBoth && inSecond == inBoth ? 1 : 0;
            case 4: return inFirst == inBoth ? 1 : 0;
            default: return NONE;
        }
    }

    // ---- seen, odds

    public int see(int row, boolean isIn) {
        if (row == -1) {
            now.seen.size = 0;
            return 0;
        }
        if (!now.rows.hasRow(row)) {
            return NONE;
        }
        return now.seen.append(row, isIn ? 1 : 0);
    }

    public int bounds(int column, int what) {
        if (!isColumn(column) || what < 0 || what > 1) {
            return NONE;
        }
        int least = NO_ANSWER;
        int howMany = 0;
        for (int bound = VALUES - 1; bound >= 0; bound--) {
            if (now.isSeenBelow(column, bound)) {
                least = bound;
                howMany++;
            }
        }
        return what == 0 ? howMany : least;
    }

    public long odds(int query, int part) {
        if (!isQuery(query) || !isPart(part)) {
            return NO;
        }
        return inLowestTerms(resultOf(query).ones(), now.rows.size, part);
    }

    public long mean(int query, int column, int part) {
        if (!isQuery(query) || !isColumn(column) || !isPart(part)) {
            return NO;
        }
        groups.fill(resultOf(query), now.rows, column);
        return inLowestTerms(groups.sum(), groups.total, part);
    }

    // ---- plans, books

    public int plan(int what, int n) {
        if (what == -1) {
            now.plan.size = 0;
            return 0;
        }
        if (what < LAST_ROW_GOES || what > BACK_TO_MARK) {
            return NONE;
        }
        if (what == LIKE_ROW_COMES && !now.rows.hasRow(n)) {
            return NONE;
        }
        if (what == BACK_TO_MARK && !now.hasMark(n)) {
            return NONE;
        }
        return now.plan.append(what, n);
    }

    public int ends(int query, int what) {
        if (!isQuery(query) || what < 0 || what > 1) {
            return NONE;
        }
        now.tryPlan(trial);
        work.goThrough(queries[query], trial);
        Bits result = work.result();
        return what == 0 ? result.ones() : result.runsWithin(trial.size);
    }

    public int book(int query, int n) {
        if (query == -1) {
            now.book.size = 0;
            return 0;
        }
        if (!isQuery(query)) {
            return NONE;
        }
        if (n < 0 || n > MOST_ROWS) {
            return BAD;
        }
        return now.book.append(query, n);
    }

    public int looked() {
        Pairs book = now.book;
        for (int i = 0; i < book.size; i++) {
            if (resultOf(book.firsts[i]).ones() != book.seconds[i]) {
                return i;
            }
        }
        return NO_ANSWER;
    }

    // ---- judging, the image, tapes

    public int judge(int query, int tape, int i) {
        if (!isQuery(query) || !isTape(tape)) {
            return NONE;
        }
        Tape told = tapes[tape];
        if (!told.isNothing() && told.sort != BOOLEANS) {
            return CAST;
        }
        Bits result = resultOf(query);
        for (int row = 0; row < now.rows.size; row++) {
            if (i < 0 || i >= told.size - row) {
                return JUDGED_BASE + row;
            }
            if ((told.items[i + row] != 0) != result.has(row)) {
                return row;
            }
        }
        return NO_ANSWER;
    }

    public int image() {
        imaged.become(now);
        hasImage = true;
        return now.rows.size;
    }

    public int undo() {
        if (!hasImage) {
            return STATE;
        }
        now.become(imaged);
        return now.rows.size;
    }

    public int taken(int query, int sort) {
        if (sort < ALL || sort > OR) {
            return BAD;
        }
        if (!isQuery(query)) {
            return NOTHING;
        }
        return queries[query].lastSort() == sort ? sort : CAST;
    }

    public int count(int what) {
        switch (what) {
            case 0: return now.rows.size;
            case 1: return now.markCount;
            case 2: return queryCount;
            case 3: return now.seen.size;
            case 4: return now.plan.size;
            case 5: return now.book.size;
            case 6: return reader.length;
            default: return BAD;
        }
    }

    public int tape(int tape, int sort, int n) {
        if (!isTape(tape)) {
            return NONE;
        }
        if (sort == Tape.NO_SORT) {
            tapes[tape].become(sort, 0);
            return 1;
        }
        if (sort < BYTES || sort > BOOLEANS || n > MOST_ITEMS) {
            return BAD;
        }
        if (n < 0) {
            return SIZE;
        }
        tapes[tape].become(sort, n);
        return 1;
    }

    public int item(int tape, int i, long v) {
        if (!isTape(tape)) {
            return NONE;
        }
        if (tapes[tape].isNothing()) {
            return NOTHING;
        }
        if (!tapes[tape].hasItem(i)) {
            return PLACE;
        }
        tapes[tape].put(i, v);
        return 1;
    }

    public long read(int tape, int i) {
        if (!isTape(tape) || !tapes[tape].hasItem(i)) {
            return NO;
        }
        return tapes[tape].items[i];
    }

    public int shift(int tape, int i, int other, int j, int n) {
        if (!isTape(tape) || !isTape(other)) {
            return NONE;
        }
        Tape from = tapes[tape];
        Tape to = tapes[other];
        if (from.isNothing() || to.isNothing()) {
            return NOTHING;
        }
        if (from.sort != to.sort) {
            return CAST;
        }
        if (!from.hasStretch(i, n) || !to.hasStretch(j, n)) {
            return PLACE;
        }
        System.arraycopy(from.items, i, to.items, j, n);
        return n;
    }

    // ---- what the calls share

    private static boolean isValue(int v) {
        return v >= 0 && v < VALUES;
    }

    private static boolean isKind(int v) {
        return v >= 0 && v < KINDS;
    }

    private static boolean isColumn(int column) {
        return column >= 0 && column < COLUMNS;
    }

    private static boolean isPart(int part) {
        return part == 0 || part == 1;
    }

    private static boolean isTape(int tape) {
        return tape >= 0 && tape < TAPES;
    }

    private boolean isQuery(int query) {
        return query >= 0 && query < queryCount;
    }

    private Bits resultOf(int query) {
        work.goThrough(queries[query], now.rows);
        return work.result();
    }

    /** The part (0 above, 1 below) of above / below when both are divided by what divides them most. */
    private static long inLowestTerms(int above, int below, int part) {
        int divisor = greatestDivisor(above, below);
        if (below == 0 || divisor == 0) {
            return NO;
        }
        return (part == 0 ? above : below) / divisor;
    }

    private static int greatestDivisor(int a, int b) {
        int rest = b;
        int divisor = a;
        for (int step = 0; rest != 0 && step < WORD; step++) {
            int next = divisor % rest;
            divisor = rest;
            rest = next;
        }
        return divisor;
    }

    /** BITS of something, a bit for each row; bits from the number of rows on are 0. */
    private static final class Bits {
        long low = 0;
        long high = 0;

        private static long firstOnes(int n) {
            if (n <= 0) {
                return 0;
            }
            return n >= WORD ? -1L : (1L << n) - 1;
        }

        boolean has(int place) {
            long word = place < WORD ? low : high;
            return ((word >>> (place & (WORD - 1))) & 1) != 0;
        }

        void put(int place) {
            long bit = 1L << (place & (WORD - 1));
            if (place < WORD) {
                low |= bit;
            } else {
                high |= bit;
            }
        }

        void become(Bits other) {
            low = other.low;
            high = other.high;
        }

        void becomeOnes(int n) {
            low = firstOnes(n);
            high = firstOnes(n - WORD);
        }

        void becomeZeros() {
            becomeOnes(0);
        }

        void cutTo(int n) {
            low &= firstOnes(n);
            high &= firstOnes(n - WORD);
        }

        void turn(int n) {
            low = ~low;
            high = ~high;
            cutTo(n);
        }

        void keepThoseOf(Bits other) {
            low &= other.low;
            high &= other.high;
        }

        void takeThoseOf(Bits other) {
            low |= other.low;
            high |= other.high;
        }

        int ones() {
            return Long.bitCount(low) + Long.bitCount(high);
        }

        int runsWithin(int n) {
            if (n <= 0) {
                return 0;
            }
            long lowChanges = low ^ ((low >>> 1) | (high << (WORD - 1)));
            long highChanges = high ^ (high >>> 1);
            // The last bit has none behind it that it could differ from.
            int changes = Long.bitCount(lowChanges & firstOnes(n - 1))
                    + Long.bitCount(highChanges & firstOnes(n - 1 - WORD));
            return changes + 1;
        }

        /** Where the run that begins at start ends: the place behind its last bit. */
        int endOfRun(int start, int n) {
            int place = start + 1;
            while (place < n && has(place) == has(start)) {
                place++;
            }
            return place;
        }

        int startOfRun(int k, int n) {
            if (k >= runsWithin(n)) {
                return NO_ANSWER;
            }
            int start = 0;
            for (int i = 0; i < k; i++) {
                start = endOfRun(start, n);
            }
            return start;
        }

        /** The place of one k (0 the first); none for a k below 0 either. */
        int placeOfOne(int k, int n) {
            int ahead = 0;
            for (int place = 0; place < n; place++) {
                if (has(place)) {
                    if (ahead == k) {
                        return place;
                    }
                    ahead++;
                }
            }
            return NO_ANSWER;
        }
    }

    /** ROWS, held as nothing but the BITS of each column: by its values and by its slices. */
    private static final class Rows {
        private final Bits[] bits = new Bits[COLUMNS * KINDS];
        int size = 0;

        Rows() {
            for (int i = 0; i < COLUMNS * KINDS; i++) {
                bits[i] = new Bits();
            }
        }

        boolean hasRow(int row) {
            return row >= 0 && row < size;
        }

        boolean isFull() {
            return size >= MOST_ROWS;
        }

        Bits bitsOf(int column, int kind) {
            return bits[column * KINDS + kind];
        }

        int valueOf(int row, int column) {
            int value = 0;
            for (int k = 0; k < SLICES; k++) {
                if (bitsOf(column, VALUES + k).has(row)) {
                    value |= 1 << k;
                }
            }
            return value;
        }

        void append(int a, int b, int c, int d) {
            putLast(0, a);
            putLast(1, b);
            putLast(2, c);
            putLast(3, d);
            size++;
        }

        void appendLike(int row) {
            append(valueOf(row, 0), valueOf(row, 1), valueOf(row, 2), valueOf(row, 3));
        }

        private void putLast(int column, int value) {
            bitsOf(column, value).put(size);
            for (int k = 0; k < SLICES; k++) {
                if (((value >> k) & 1) != 0) {
                    bitsOf(column, VALUES + k).put(size);
                }
            }
        }

        void cutTo(int n) {
            if (n >= size) {
                return;
            }
            for (int i = 0; i < COLUMNS * KINDS; i++) {
                bits[i].cutTo(n);
            }
            size = n;
        }

        void become(Rows other) {
            for (int i = 0; i < COLUMNS * KINDS; i++) {
                bits[i].become(other.bits[i]);
            }
            size = other.size;
        }

        int runsOfSlices(int column) {
            int together = 0;
            for (int k = 0; k < SLICES; k++) {
                together += bitsOf(column, VALUES + k).runsWithin(size);
            }
            return together;
        }
    }

    /** Rows of two numbers each, told by hand, up to a limit. */
    private static final class Pairs {
        private final int most;
        final int[] firsts;
        final int[] seconds;
        int size = 0;

        Pairs(int most) {
            this.most = most;
            firsts = new int[most];
            seconds = new int[most];
        }

        /** How many there are then; FULL when there is no room. */
        int append(int first, int second) {
            if (size >= most) {
                return FULL;
            }
            firsts[size] = first;
            seconds[size] = second;
            size++;
            return size;
        }

        void become(Pairs other) {
            System.arraycopy(other.firsts, 0, firsts, 0, most);
            System.arraycopy(other.seconds, 0, seconds, 0, most);
            size = other.size;
        }
    }

    /** All that an image holds. */
    private static final class State {
        final Rows rows = new Rows();
        final int[] marks = new int[MOST_MARKS];
        int markCount = 0;
        final Pairs seen = new Pairs(MOST_SEEN);
        final Pairs plan = new Pairs(MOST_PLAN);
        final Pairs book = new Pairs(MOST_BOOK);

        boolean hasMark(int mark) {
            return mark >= 0 && mark < markCount;
        }

        void become(State other) {
            rows.become(other.rows);
            System.arraycopy(other.marks, 0, marks, 0, MOST_MARKS);
            markCount = other.markCount;
            seen.become(other.seen);
            plan.become(other.plan);
            book.become(other.book);
        }

        /** Whether all that is seen is so by the query: column below bound. */
        boolean isSeenBelow(int column, int bound) {
            for (int i = 0; i < seen.size; i++) {
                int row = seen.firsts[i];
                if (!rows.hasRow(row)) {
                    return false;
                }
                boolean isBelow = rows.valueOf(row, column) < bound;
                if (isBelow != (seen.seconds[i] != 0)) {
                    return false;
                }
            }
            return true;
        }

        /** Makes trial the rows as they would be when the plan had gone. */
        void tryPlan(Rows trial) {
            trial.become(rows);
            for (int i = 0; i < plan.size; i++) {
                tryStep(plan.firsts[i], plan.seconds[i], trial);
            }
        }

        private void tryStep(int what, int n, Rows trial) {
            if (what == LAST_ROW_GOES) {
                if (trial.size > 0) {
                    trial.cutTo(trial.size - 1);
                }
            } else if (what == LIKE_ROW_COMES) {
                if (trial.hasRow(n) && !trial.isFull()) {
                    trial.appendLike(n);
                }
            } else if (hasMark(n)) {
                trial.cutTo(marks[n]);
            }
        }
    }

    /** A query as its steps, each behind the parts that it joins: what comes last is the whole. */
    private static final class Query {
        private final byte[] sorts = new byte[MOST_STEPS];
        private final byte[] columns = new byte[MOST_STEPS];
        private final byte[] leasts = new byte[MOST_STEPS];
        private final byte[] greatests = new byte[MOST_STEPS];
        int size = 0;

        void appendJoin(int sort) {
            appendLeaf(sort, 0, 0, 0);
        }

        /** An is, below or in: all of them ask whether the column's value lies from least to greatest. */
        void appendLeaf(int sort, int column, int least, int greatest) {
            if (size >= MOST_STEPS) {
                return;
            }
            sorts[size] = (byte) sort;
            columns[size] = (byte) column;
            leasts[size] = (byte) least;
            greatests[size] = (byte) greatest;
            size++;
        }

        int lastSort() {
            return size == 0 ? ALL : sorts[size - 1];
        }

        int stepsBetween(int firstSort, int lastSort) {
            int found = 0;
            for (int i = 0; i < size; i++) {
                if (sorts[i] >= firstSort && sorts[i] <= lastSort) {
                    found++;
                }
            }
            return found;
        }
    }

    /** Goes through a query's steps; what the parts so far have come to waits on a stack. */
    private static final class Work {
        private final Bits[] results = new Bits[MOST_PARTS];
        private final int[] costs = new int[MOST_PARTS];
        private final int[] depths = new int[MOST_PARTS];
        private int height = 0;

        Work() {
            for (int i = 0; i < MOST_PARTS; i++) {
                results[i] = new Bits();
            }
        }

        Bits result() {
            return results[0];
        }

        int cost() {
            return costs[0];
        }

        int depth() {
            return depths[0];
        }

        void goThrough(Query query, Rows rows) {
            height = 0;
            for (int i = 0; i < query.size; i++) {
                int sort = query.sorts[i];
                if (sort == NOT) {
                    turn(rows);
                } else if (sort == AND || sort == OR) {
                    join(sort, rows);
                } else {
                    ask(query, i, rows);
                }
            }
        }

        private void turn(Rows rows) {
            if (height < 1) {
                return;
            }
            results[height - 1].turn(rows.size);
            depths[height - 1]++;
        }

        private void join(int sort, Rows rows) {
            if (height < 2) {
                return;
            }
            int first = height - 2;
            int second = height - 1;
            costs[first] += costs[second]
                    + results[first].runsWithin(rows.size) + results[second].runsWithin(rows.size);
            depths[first] = Math.max(depths[first], depths[second]) + 1;
            if (sort == AND) {
                results[first].keepThoseOf(results[second]);
            } else {
                results[first].takeThoseOf(results[second]);
            }
            height--;
        }

        private void ask(Query query, int step, Rows rows) {
            if (height >= MOST_PARTS) {
                return;
            }
            int column = query.columns[step];
            Bits result = results[height];
            costs[height] = 0;
            depths[height] = 1;
            height++;
            if (query.sorts[step] == ALL) {
                result.becomeOnes(rows.size);
                return;
            }
            result.becomeZeros();
            for (int v = query.leasts[step]; v <= query.greatests[step]; v++) {
                result.takeThoseOf(rows.bitsOf(column, v));
            }
            costs[height - 1] = query.sorts[step] == IS
                    ? result.runsWithin(rows.size) : rows.runsOfSlices(column);
        }
    }

    /** THE TEXT, and how a query is read from it. */
    private static final class Reader {
        private static final int NO_FAULT = -1, NO_SIGN = -1, NO_COLUMN = -1;

        private final byte[] signs = new byte[MOST_TEXT];
        int length = 0;
        private int place = 0;
        private int fault = NO_FAULT;

        void append(int sign) {
            if (length < MOST_TEXT) {
                signs[length] = (byte) sign;
                length++;
            }
        }

        /** Makes query what the text says: NO_FAULT, or else where the fault is. */
        int readInto(Query query) {
            query.size = 0;
            place = 0;
            fault = NO_FAULT;
            readEither(query, 0);
            if (place < length) {
                blameWhatFollows();
            }
            return fault;
        }

        private void readEither(Query query, int within) {
            readBoth(query, within);
            for (int i = 0; i < MOST_TEXT && isJoinedBy("or"); i++) {
                passJoin("or");
                readBoth(query, within);
                query.appendJoin(OR);
            }
        }

        private void readBoth(Query query, int within) {
            readFactor(query, within);
            for (int i = 0; i < MOST_TEXT && isJoinedBy("and"); i++) {
                passJoin("and");
                readFactor(query, within);
                query.appendJoin(AND);
            }
        }

        private void readFactor(Query query, int within) {
            if (fault != NO_FAULT) {
                return;
            }
            boolean isNot = isWordAt(place, "not");
            boolean isOpening = signAt(place) == '(';
            if ((isNot || isOpening) && within >= MOST_WITHIN) {
                blame(place);
            } else if (isNot) {
                passWord("not");
                pass(' ');
                readFactor(query, within + 1);
                query.appendJoin(NOT);
            } else if (isOpening) {
                pass('(');
                readEither(query, within + 1);
                passClosing();
            } else if (isWordAt(place, "all")) {
                passWord("all");
                query.appendLeaf(ALL, 0, 0, 0);
            } else {
                readQuestion(query);
            }
        }

        private void readQuestion(Query query) {
            int column = passColumn();
            pass(' ');
            boolean isIs = isWordAt(place, "is");
            boolean isBelow = isWordAt(place, "below");
            if (!isIs && !isBelow && !isWordAt(place, "in")) {
                blame(place);
                return;
            }
            passWord(isIs ? "is" : isBelow ? "below" : "in");
            pass(' ');
            int first = passValue();
            if (isIs) {
                query.appendLeaf(IS, column, first, first);
            } else if (isBelow) {
                query.appendLeaf(BELOW, column, 0, first - 1);
            } else {
                pass('.');
                pass('.');
                query.appendLeaf(IN, column, first, passValue());
            }
        }

        private int passColumn() {
            int sign = signAt(place);
            if (sign < 'a' || sign >= 'a' + COLUMNS || isLetter(signAt(place + 1))) {
                blame(place);
                return NO_COLUMN;
            }
            place++;
            return sign - 'a';
        }

        private int passValue() {
            if (!isDigit(signAt(place))) {
                blame(place);
                return 0;
            }
            int value = signAt(place) - '0';
            place++;
            if (isDigit(signAt(place))) {
                value = value * 10 + signAt(place) - '0';
                if (value >= VALUES) {
                    blame(place);
                }
                place++;
            }
            return value;
        }

        private void passClosing() {
            if (signAt(place) == ')') {
                place++;
            } else {
                blameWhatFollows();
            }
        }

        /** Behind a whole part: a blank there would still be right, so the word behind it is not. */
        private void blameWhatFollows() {
            blame(signAt(place) == ' ' ? place + 1 : place);
        }

        private boolean isJoinedBy(String word) {
            return fault == NO_FAULT && signAt(place) == ' ' && isWordAt(place + 1, word);
        }

        private void passJoin(String word) {
            pass(' ');
            passWord(word);
            pass(' ');
        }

        /** A word is as many letters as stand there, so none may follow. */
        private boolean isWordAt(int start, String word) {
            for (int i = 0; i < word.length(); i++) {
                if (signAt(start + i) != word.charAt(i)) {
                    return false;
                }
            }
            return !isLetter(signAt(start + word.length()));
        }

        private void passWord(String word) {
            place += word.length();
        }

        private void pass(char sign) {
            if (signAt(place) == sign) {
                place++;
            } else {
                blame(place);
            }
        }

        /** Only the first is the fault: what is read behind it may be blamed without harm. */
        private void blame(int where) {
            if (fault == NO_FAULT) {
                fault = where;
            }
        }

        private static boolean isLetter(int sign) {
            return sign >= 'a' && sign <= 'z';
        }

        private static boolean isDigit(int sign) {
            return sign >= '0' && sign <= '9';
        }

        private int signAt(int where) {
            return where >= 0 && where < length ? signs[where] : NO_SIGN;
        }
    }

    /** GROUP: how many rows of a result have each value in a column. */
    private static final class Groups {
        private final Bits inGroup = new Bits();
        final int[] sizes = new int[VALUES];
        int total = 0;

        void fill(Bits result, Rows rows, int column) {
            total = 0;
            for (int v = 0; v < VALUES; v++) {
                inGroup.become(result);
                inGroup.keepThoseOf(rows.bitsOf(column, v));
                sizes[v] = inGroup.ones();
                total += sizes[v];
            }
        }

        int sum() {
            int sum = 0;
            for (int v = 0; v < VALUES; v++) {
                sum += v * sizes[v];
            }
            return sum;
        }

        int least() {
            for (int v = 0; v < VALUES; v++) {
                if (sizes[v] > 0) {
                    return v;
                }
            }
            return NO_ANSWER;
        }

        int greatest() {
            for (int v = VALUES - 1; v >= 0; v--) {
                if (sizes[v] > 0) {
                    return v;
                }
            }
            return NO_ANSWER;
        }

        int middle() {
            int soFar = 0;
            for (int v = 0; v < VALUES; v++) {
                soFar += sizes[v];
                if (soFar > 0 && soFar * 2 >= total) {
                    return v;
                }
            }
            return NO_ANSWER;
        }

        int unlike() {
            int found = 0;
            for (int v = 0; v < VALUES; v++) {
                if (sizes[v] > 0) {
                    found++;
                }
            }
            return found;
        }

        int greatestGroup() {
            int most = 0;
            int best = NO_ANSWER;
            for (int v = 0; v < VALUES; v++) {
                if (sizes[v] > most) {
                    most = sizes[v];
                    best = v;
                }
            }
            return best;
        }
    }

    /** A TAPE; items of every sort are held as longs, cut to what an item of the sort can hold. */
    private static final class Tape {
        static final int NO_SORT = -1;

        final long[] items = new long[MOST_ITEMS];
        int sort = NO_SORT;
        int size = 0;

        boolean isNothing() {
            return sort == NO_SORT;
        }

        boolean hasItem(int i) {
            return i >= 0 && i < size;
        }

        boolean hasStretch(int start, int n) {
            return n >= 0 && start >= 0 && start <= size - n;
        }

        void become(int newSort, int newSize) {
            Arrays.fill(items, 0L);
            sort = newSort;
            size = newSize;
        }

        void put(int i, long v) {
            switch (sort) {
                case BYTES: items[i] = (byte) v; break;
                case SHORTS: items[i] = (short) v; break;
                case INTS: items[i] = (int) v; break;
                case BOOLEANS: items[i] = v != 0 ? 1 : 0; break;
                default: items[i] = v; break;
            }
        }
    }
}
