/** Each sentence on rows, marks and their bits that names a boundary: promises 1 to 7. */
final class RowEdgesTest {
    private static final Due T = new Due("RowEdgesTest");

    public static void main(String[] args) {
        newObject();
        aRowsNumber();
        valuesOfColumns();
        addRefused();
        at();
        aMarksNumber();
        marksTellRows();
        backTakesRowsAndMarks();
        back();
        backIntoEitherLong();
        bitsForEachRow();
        runs();
        runsWithoutRows();
        runsOfKinds();
        run();
        runsOfOnes();
        fiveHundredAndTwelve();
        T.end();
    }

    private static void newObject() {
        T.sentence("No ROWS, no QUERIES.");
        RunColumns x = new RunColumns();
        T.due("rows", x.count(0), 0);
        T.due("queries", x.count(2), 0);
        T.due("at(0, 0)", x.at(0, 0), -1);
        T.due("of(0, 0)", x.of(0, 0), -1);
        T.due("the first row is 0", x.add(1, 2, 3, 4), 0);
        T.due("the first query is 0", Due.query(x, "all"), 0);
        RunColumns other = new RunColumns();
        T.due("another object has no rows of it", other.count(0), 0);
        T.due("nor queries", other.count(2), 0);
        T.due("an empty text is no query", other.query(), -10);
    }

    private static void aRowsNumber() {
        T.sentence("A ROW comes: its number.");
        RunColumns x = new RunColumns();
        for (int i = 0; i < 120; i++) {
            T.due("add " + i, x.add(i % 16, 0, 15, 7), i);
        }
        RunColumns y = Make.many(10);
        y.mark();
        y.add(0, 0, 0, 0);
        y.back(0);
        T.due("where one is no more the next comes", y.add(3, 3, 3, 3), 10);
    }

    private static void valuesOfColumns() {
        T.sentence("1 ROWS 0 .. 119, as they come, each with a VALUE (0 .. 15) in each of COLUMNS 0 a, 1 b, 2 c, 3 d.");
        RunColumns x = new RunColumns();
        for (int v = 0; v < 16; v++) {
            T.due("row " + v, x.add(v, 15 - v, v ^ 5, v ^ 10), v);
        }
        for (int v = 0; v < 16; v++) {
            T.due("a", x.at(v, 0), v);
            T.due("b", x.at(v, 1), 15 - v);
            T.due("c", x.at(v, 2), v ^ 5);
            T.due("d", x.at(v, 3), v ^ 10);
        }
        String[] texts = {"a is 15", "b is 15", "c is 15", "d is 15"};
        int[] rows = {15, 0, 10, 5};
        for (int i = 0; i < 4; i++) {
            int query = Due.query(x, texts[i]);
            T.due("the row of " + texts[i], x.row(query, 0), rows[i]);
        }
        RunColumns full = Make.many(120);
        int[] places = {0, 63, 64, 119};
        for (int place : places) {
            T.due("a of row " + place, full.at(place, 0), place % 16);
            T.due("b of row " + place, full.at(place, 1), place / 16);
            T.due("d of row " + place, full.at(place, 3), 15);
        }
    }

    private static void addRefused() {
        T.sentence("BAD: a, b, c, d; FULL: 120.");
        RunColumns x = Make.many(119);
        for (int w : Make.outside(0, 15)) {
            T.due("a " + w, x.add(w, 1, 1, 1), -2);
            T.due("b " + w, x.add(1, w, 1, 1), -2);
            T.due("c " + w, x.add(1, 1, w, 1), -2);
            T.due("d " + w, x.add(1, 1, 1, w), -2);
            T.due("all four " + w, x.add(w, w, w, w), -2);
        }
        T.due("119 rows are not too many", x.add(0, 15, 0, 15), 119);
        T.due("120 are", x.add(0, 15, 0, 15), -4);
        T.due("BAD stands ahead of FULL", x.add(1, 1, 16, 1), -2);
        T.due("there are as many as before", x.count(0), 120);
        RunColumns y = Make.many(119);
        y.mark();
        y.add(0, 0, 0, 0);
        y.back(0);
        T.due("there is room again", y.add(1, 1, 1, 1), 119);
        T.due("for one", y.add(1, 1, 1, 1), -4);
    }

    private static void at() {
        T.sentence("The VALUE of a ROW in a COLUMN. NONE.");
        RunColumns none = new RunColumns();
        T.due("without rows", none.at(0, 0), -1);
        for (int size : Make.SIZES) {
            RunColumns x = Make.many(size);
            for (int w : Make.outside(0, size - 1)) {
                T.due("row " + w + " of " + size, x.at(w, 3), -1);
            }
            if (size > 0) {
                T.due("the first of " + size, x.at(0, 3), 15);
                T.due("the last of " + size, x.at(size - 1, 0), (size - 1) % 16);
            }
            for (int w : Make.outside(0, 3)) {
                T.due("column " + w, x.at(0, w), -1);
            }
        }
        T.due("neither", Make.many(3).at(3, 4), -1);
    }

    private static void aMarksNumber() {
        T.sentence("A MARK comes: its number. FULL: 10.");
        RunColumns x = new RunColumns();
        for (int i = 0; i < 10; i++) {
            T.due("mark " + i, x.mark(), i);
        }
        T.due("the eleventh", x.mark(), -4);
        T.due("there are ten", x.count(1), 10);
        x.back(8);
        T.due("there is room for one", x.mark(), 9);
        T.due("but no more", x.mark(), -4);
    }

    private static void marksTellRows() {
        T.sentence("MARKS, as they come (10 at most), each how many ROWS there were;");
        RunColumns x = new RunColumns();
        x.mark();
        for (int i = 1; i < 10; i++) {
            x.add(i, i, i, i);
            x.mark();
        }
        x.add(15, 15, 15, 15);
        for (int i = 9; i >= 0; i--) {
            x.back(i);
            T.due("rows by mark " + i, x.count(0), i);
        }
        RunColumns full = Make.many(120);
        full.mark();
        T.due("a mark at 120", full.back(0), 0);
        T.due("tells of 120", full.count(0), 120);
    }

    private static void backTakesRowsAndMarks() {
        T.sentence("BACK to a MARK: ROWS from there on are no more, nor are MARKS behind it.");
        RunColumns x = Make.many(3);
        x.mark();
        x.mark();
        x.add(9, 9, 9, 9);
        x.mark();
        T.due("back(1)", x.back(1), 1);
        T.due("the row of its number is no more", x.at(3, 0), -1);
        T.due("the one ahead is", x.at(2, 0), 2);
        T.due("mark 2 is no more", x.back(2), -1);
        T.due("back(0), by a mark of as many rows", x.back(0), 0);
        T.due("mark 1 is no more all the same", x.back(1), -1);
        T.due("mark 0 is", x.count(1), 1);
    }

    private static void back() {
        T.sentence("BACK to a MARK (that one stays): how many ROWS are no more. NONE.");
        RunColumns x = new RunColumns();
        T.due("without marks", x.back(0), -1);
        x.mark();
        for (int i = 0; i < 120; i++) {
            x.add(0, 0, 0, 0);
        }
        x.mark();
        for (int w : Make.outside(0, 1)) {
            T.due("back(" + w + ")", x.back(w), -1);
        }
        T.due("back(9)", x.back(9), -1);
        T.due("back(10)", x.back(10), -1);
        T.due("to the last: none are no more", x.back(1), 0);
        T.due("it stays", x.count(1), 2);
        T.due("all 120 are no more", x.back(0), 120);
        T.due("it stays", x.count(1), 1);
        T.due("so it is there to go back to", x.back(0), 0);
        T.due("no rows", x.count(0), 0);
    }

    /** What a row had been must not stay where the next comes, in either long, by any value or slice. */
    private static void backIntoEitherLong() {
        for (int size : Make.SIZES) {
            if (size < 2) {
                continue;
            }
            for (int old = 0; old < 16; old += 5) {
                RunColumns x = Make.many(size - 2);
                Due.query(x, "a is " + old);
                int before = x.of(0, 0);
                x.mark();
                x.add(old, old, old, old);
                x.add(old, old, old, old);
                x.back(0);
                int now = (old + 1) % 16;
                x.add(now, now, now, now);
                T.due("value at " + (size - 2) + " behind " + old, x.at(size - 2, 0), now);
                T.due("how many have " + old, x.of(0, 0), before);
                x.add(now, now, now, now);
                T.due("how many then", x.of(0, 0), before);
                T.due("value at " + (size - 1), x.at(size - 1, 2), now);
            }
        }
    }

    private static void bitsForEachRow() {
        T.sentence("BITS of something: for each of ROWS 0 or 1.");
        for (int size : Make.SIZES) {
            int[] kinds = {0, 1, 16, 19};
            RunColumns x = Make.many(size);
            for (int kind : kinds) {
                T.due("of " + size + " rows, kind " + kind, together(x, 0, kind), size);
            }
        }
    }

    /** How long all runs are, together. */
    private static int together(RunColumns x, int column, int kind) {
        int sum = 0;
        int runs = x.runs(column, kind);
        for (int k = 0; k < runs; k++) {
            int length = x.run(column, kind, k);
            sum += length < 0 ? -10 - length : length;
        }
        return sum;
    }

    private static void runs() {
        T.sentence("RUNS of BITS: how many there are of most like ones on end (none without ROWS).");
        for (int size : Make.SIZES) {
            RunColumns x = Make.many(size);
            T.due("every row another, of " + size, x.runs(2, 1), size);
            T.due("all alike, of " + size, x.runs(3, 15), Math.min(1, size));
            T.due("of " + size + " zeros", x.runs(3, 14), Math.min(1, size));
        }
        T.due("all but the first", Make.rows(1, 0, 0, 0).runs(0, 0), 2);
        T.due("all but the last", Make.rows(0, 0, 0, 1).runs(0, 0), 2);
        T.due("one within", Make.rows(0, 0, 1, 0).runs(0, 1), 3);
        int[] changes = {1, 62, 63, 64, 65, 119};
        for (int at : changes) {
            RunColumns x = new RunColumns();
            for (int i = 0; i < 120; i++) {
                x.add(i < at ? 4 : 3, 0, 0, 0);
            }
            T.due("one change at " + at, x.runs(0, 4), 2);
            T.due("the first run", x.run(0, 4, 0), -10 - at);
            T.due("the second run", x.run(0, 4, 1), 120 - at);
        }
    }

    private static void runsWithoutRows() {
        RunColumns none = new RunColumns();
        RunColumns one = Make.rows(0);
        for (int column = 0; column < 4; column++) {
            for (int v = 0; v < 20; v++) {
                T.due("no rows: runs(" + column + ", " + v + ")", none.runs(column, v), 0);
                T.due("no rows: run(" + column + ", " + v + ", 0)", none.run(column, v, 0), -5);
                T.due("a row: runs(" + column + ", " + v + ")", one.runs(column, v), 1);
                T.due("a row: run(" + column + ", " + v + ", 0)", one.run(column, v, 0), v == 0 ? -11 : 1);
            }
        }
    }

    private static void runsOfKinds() {
        T.sentence("RUNS of BITS of a COLUMN: v 0 .. 15 whether its VALUE is v, 16 .. 19 SLICE v less 16. NONE.");
        int[] ones = {15, 1, 2, 4, 8};
        for (int i = 0; i < ones.length; i++) {
            RunColumns x = Make.rows(0, 0, ones[i]);
            T.due("value 0 of " + ones[i], x.runs(0, 0), 2);
            T.due("value 15 of " + ones[i], x.runs(0, 15), i == 0 ? 2 : 1);
            for (int k = 0; k < 4; k++) {
                T.due("slice " + k + " of " + ones[i], x.runs(0, 16 + k), (ones[i] >> k) % 2 == 1 ? 2 : 1);
            }
            for (int column = 1; column < 4; column++) {
                T.due("nothing of it in column " + column, x.runs(column, 0), 1);
            }
        }
        RunColumns x = Make.many(5);
        for (int w : Make.outside(0, 19)) {
            T.due("runs(0, " + w + ")", x.runs(0, w), -1);
        }
        for (int w : Make.outside(0, 3)) {
            T.due("runs(" + w + ", 0)", x.runs(w, 0), -1);
        }
        T.due("neither", x.runs(4, 20), -1);
        T.due("NONE without rows, too", new RunColumns().runs(0, 20), -1);
    }

    private static void run() {
        T.sentence("How long RUN k of those BITS is (-5: there are not so many);");
        for (int size : Make.SIZES) {
            RunColumns x = Make.many(size);
            T.due("run " + size + " of " + size, x.run(2, 0, size), -5);
            T.due("run MAX of " + size, x.run(2, 0, Make.MAX), -5);
            T.due("run 1 of one", x.run(3, 15, 1), -5);
            if (size > 0) {
                T.due("the last of " + size, x.run(2, 0, size - 1), size % 2 == 1 ? -11 : 1);
                T.due("run 0: all zeros", x.run(3, 0, 0), size);
            }
        }
        T.sentence("NONE: column, v, k is below 0.");
        RunColumns x = Make.many(5);
        for (int w : Make.outside(0, 3)) {
            T.due("run(" + w + ", 0, 0)", x.run(w, 0, 0), -1);
            T.due("run(" + w + ", 0, MAX)", x.run(w, 0, Make.MAX), -1);
        }
        for (int w : Make.outside(0, 19)) {
            T.due("run(0, " + w + ", 0)", x.run(0, w, 0), -1);
            T.due("run(0, " + w + ", MAX)", x.run(0, w, Make.MAX), -1);
        }
        T.due("run(0, 0, -1)", x.run(0, 0, -1), -1);
        T.due("run(0, 0, MIN)", x.run(0, 0, Make.MIN), -1);
        T.due("k below 0 without rows", new RunColumns().run(0, 0, -1), -1);
    }

    private static void runsOfOnes() {
        T.sentence("below 0, less 10, if it is of ones (so -13 for three).");
        T.due("three", Make.rows(7, 7, 7).run(0, 7, 0), -13);
        T.due("one", Make.rows(7).run(0, 7, 0), -11);
        T.due("three at the end", Make.rows(1, 7, 7, 7).run(0, 7, 1), -13);
        T.due("three of a slice", Make.rows(4, 5, 7, 8).run(0, 18, 0), -13);
        for (int size : Make.SIZES) {
            if (size > 0) {
                T.due("all " + size, Make.many(size).run(3, 19, 0), -10 - size);
            }
        }
    }

    private static void fiveHundredAndTwelve() {
        RunColumns x = new RunColumns();
        for (int call = 1; call < 512; call++) {
            T.due("call " + call, x.count(0), 0);
        }
        T.due("call 512", x.add(1, 2, 3, 4), 0);
    }
}
