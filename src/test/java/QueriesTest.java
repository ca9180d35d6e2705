/** Promises 10 to 14: of, row, group, edge, two. */
final class QueriesTest {
    private static final Due T = new Due("QueriesTest");
    private static final int MIN = Integer.MIN_VALUE, MAX = Integer.MAX_VALUE;
    private static final int[] A = {0, 1, 4, 9, 0, 9, 4, 1};

    public static void main(String[] args) {
        results();
        costs();
        shapes();
        withoutRows();
        wrongNumbers();
        row();
        group();
        edge();
        two();
        manyRows();
        rowsComeAndGo();
        T.end();
    }

    /** Eight rows: a as in A, b 0 .. 7, c 3 (six times), then 12, d 3, 2, 1, 0 twice. */
    private static RunColumns eight() {
        RunColumns x = new RunColumns();
        for (int i = 0; i < 8; i++) {
            x.add(A[i], i, i < 6 ? 3 : 12, 3 - i % 4);
        }
        return x;
    }

    private static void of(String text, int... wants) {
        RunColumns x = eight();
        T.due("query() of '" + text + "'", Due.query(x, text), 0);
        for (int what = 0; what < wants.length; what++) {
            T.due("of(0, " + what + ") of '" + text + "'", x.of(0, what), wants[what]);
        }
    }

    private static void results() {
        of("all", 8, 1, 0, 0, 7, 1, 0, 1);
        of("not all", 0, 1, 0, -5, -5, 1, 1, 2);
        of("a is 0", 2, 4, 4, 0, 4, 1, 0, 1);
        of("a is 01", 2, 4, 4, 1, 7, 1, 0, 1);
        of("a is 15", 0, 1, 1, -5, -5, 1, 0, 1);
        of("b below 3", 3, 2, 8 + 4 + 2 + 1, 0, 2, 1, 0, 1);
        of("b below 0", 0, 1, 15, -5, -5, 1, 0, 1);
        of("b below 15", 8, 1, 15, 0, 7, 1, 0, 1);
        of("b in 2..5", 4, 3, 15, 2, 5, 1, 0, 1);
        of("b in 5..2", 0, 1, 15, -5, -5, 1, 0, 1);
        of("b in 7..15", 1, 2, 15, 7, 7, 1, 0, 1);
        of("b in 0..15", 8, 1, 15, 0, 7, 1, 0, 1);
        of("not b in 2..5", 4, 3, 15, 0, 7, 1, 1, 2);
        of("c is 12", 2, 2, 2, 6, 7, 1, 0, 1);
        of("d below 2", 4, 4, 8 + 4 + 1 + 1, 2, 7, 1, 0, 1);
    }

    private static void costs() {
        // a is 0: rows 0, 4 (4 runs); b is 1: row 1 (3 runs).
        of("a is 0 or b is 1", 3, 4, 4 + 3 + 4 + 3, 0, 4, 2, 0, 2);
        of("a is 0 and b is 0", 1, 2, 4 + 2 + 4 + 2, 0, 0, 2, 0, 2);
        of("a is 0 and not b is 0", 1, 3, 4 + 2 + 4 + 2, 4, 4, 2, 1, 3);
        // What stands ahead is the one part: (rows 0 1, 2 runs) with row 2 (3 runs).
        of("b is 0 or b is 1 or b is 2", 3, 2, (2 + 3 + 2 + 3) + 3 + 2 + 3, 0, 2, 3, 0, 3);
        of("b is 0 or (b is 1 or b is 2)", 3, 2, 2 + (3 + 3 + 3 + 3) + 2 + 3, 0, 2, 3, 0, 3);
        // all (cost 0, 1 run) with rows 6, 7 (2 runs).
        of("all and c is 12", 2, 2, 0 + 2 + 1 + 2, 6, 7, 2, 0, 2);
        of("all or c is 12", 8, 1, 0 + 2 + 1 + 2, 0, 7, 2, 0, 2);
        // and goes ahead of or.
        of("b is 0 or b is 1 and a is 0", 1, 2, 2 + (3 + 4 + 3 + 4) + 2 + 1, 0, 0, 3, 0, 3);
        of("(b is 0 or b is 1) and a is 0", 1, 2, (2 + 3 + 2 + 3) + 4 + 2 + 4, 0, 0, 3, 0, 3);
        of("b is 1 and a is 0 or b is 0", 1, 2, (3 + 4 + 3 + 4) + 2 + 1 + 2, 0, 0, 3, 0, 3);
        // not goes ahead of and.
        of("not b is 0 and a is 0", 1, 3, 2 + 4 + 2 + 4, 4, 4, 2, 1, 3);
        of("not (b is 0 and a is 0)", 7, 2, 2 + 4 + 2 + 4, 1, 7, 2, 1, 3);
    }

    private static void shapes() {
        of("((all))", 8, 1, 0, 0, 7, 1, 0, 1);
        // As many parts wait at once as a text of 100 bytes has room for.
        of("all or all and (all or all and (all or all and (all or all and (all or all and (all and all)))))",
                8, 1, 11 * 2, 0, 7, 12, 0, 12);
        of("not not not all", 0, 1, 0, -5, -5, 1, 3, 4);
        of("all or not not all and all", 8, 1, 0 + (0 + 0 + 1 + 1) + 1 + 1, 0, 7, 3, 2, 5);
        RunColumns x = eight();
        String[] texts = {"all", "a is 1", "b below 1", "c in 1..2", "not all", "all and all", "all or all", "(all or all and all)"};
        int[] sorts = {0, 1, 2, 3, 4, 5, 6, 6};
        for (int i = 0; i < texts.length; i++) {
            T.due(texts[i], Due.query(x, texts[i]), i);
            for (int sort = 0; sort <= 6; sort++) {
                T.due("taken(" + i + ", " + sort + ")", x.taken(i, sort), sort == sorts[i] ? sort : -12);
            }
            T.due("taken(" + i + ", 7)", x.taken(i, 7), -2);
            T.due("taken(" + i + ", -1)", x.taken(i, -1), -2);
        }
        T.due("taken(8, 0)", x.taken(8, 0), -11);
        T.due("taken(-1, 6)", x.taken(-1, 6), -11);
        T.due("taken: BAD is named first", x.taken(8, 7), -2);
        T.due("taken(MIN, MAX)", x.taken(MIN, MAX), -2);
    }

    private static void withoutRows() {
        RunColumns x = new RunColumns();
        Due.query(x, "not a in 1..2 or all and b is 3");
        int[] wants = {0, 0, 0, -5, -5, 3, 1, 3};
        for (int what = 0; what < wants.length; what++) {
            T.due("without rows of(0, " + what + ")", x.of(0, what), wants[what]);
        }
        T.due("row", x.row(0, 0), -5);
        T.due("group", x.group(0, 0, 0), 0);
        for (int what = 0; what < 5; what++) {
            T.due("edge " + what, x.edge(0, 0, what), what == 3 ? 0 : -5);
        }
        int[] twos = {0, 0, 0, 1, 1};
        for (int what = 0; what < 5; what++) {
            T.due("two " + what, x.two(0, 0, what), twos[what]);
        }
    }

    private static void wrongNumbers() {
        RunColumns x = eight();
        Due.query(x, "all");
        int[] noQuery = {-1, 1, 8, MIN, MAX};
        for (int q : noQuery) {
            T.due("of(" + q + ", 0)", x.of(q, 0), -1);
            T.due("row(" + q + ", 0)", x.row(q, 0), -1);
            T.due("group(" + q + ", 0, 0)", x.group(q, 0, 0), -1);
            T.due("edge(" + q + ", 0, 0)", x.edge(q, 0, 0), -1);
            T.due("two(" + q + ", 0, 0)", x.two(q, 0, 0), -1);
            T.due("two(0, " + q + ", 0)", x.two(0, q, 0), -1);
        }
        int[] noWhat = {-1, MIN, MAX};
        for (int what : noWhat) {
            T.due("of(0, " + what + ")", x.of(0, what), -1);
            T.due("edge(0, 0, " + what + ")", x.edge(0, 0, what), -1);
            T.due("two(0, 0, " + what + ")", x.two(0, 0, what), -1);
        }
        T.due("of(0, 8)", x.of(0, 8), -1);
        T.due("edge(0, 0, 5)", x.edge(0, 0, 5), -1);
        T.due("two(0, 0, 5)", x.two(0, 0, 5), -1);
        int[] noColumn = {-1, 4, MIN, MAX};
        for (int c : noColumn) {
            T.due("group(0, " + c + ", 0)", x.group(0, c, 0), -1);
            T.due("edge(0, " + c + ", 3)", x.edge(0, c, 3), -1);
        }
        int[] noValue = {-1, 16, MIN, MAX};
        for (int v : noValue) {
            T.due("group(0, 0, " + v + ")", x.group(0, 0, v), -1);
        }
    }

    private static void row() {
        RunColumns x = eight();
        Due.query(x, "a in 1..8");
        int[] wants = {1, 2, 6, 7, -5, -5};
        for (int k = 0; k < wants.length; k++) {
            T.due("row(0, " + k + ")", x.row(0, k), wants[k]);
        }
        T.due("row(0, MAX)", x.row(0, MAX), -5);
        T.due("row(0, -1)", x.row(0, -1), -1);
        T.due("row(0, MIN)", x.row(0, MIN), -1);
    }

    private static void group() {
        RunColumns x = eight();
        Due.query(x, "b below 6");
        int[] wants = {2, 1, 0, 0, 1, 0, 0, 0, 0, 2, 0, 0, 0, 0, 0, 0};
        for (int v = 0; v < 16; v++) {
            T.due("group(0, 0, " + v + ")", x.group(0, 0, v), wants[v]);
            T.due("group(0, 2, " + v + ")", x.group(0, 2, v), v == 3 ? 6 : 0);
        }
    }

    private static void edge() {
        edge("b below 6", 0, 0, 9, 1, 4, 0);
        edge("b in 3..7", 0, 0, 9, 4, 4, 9);
        edge("b in 1..3", 0, 1, 9, 4, 3, 1);
        edge("all", 2, 3, 12, 3, 2, 3);
        edge("all", 0, 0, 9, 1, 4, 0);
        edge("not a is 0", 0, 1, 9, 4, 3, 1);
        edge("b is 7", 1, 7, 7, 7, 1, 7);
        edge("a is 2", 1, -5, -5, -5, 0, -5);
        edge("b is 0", 1, 0, 0, 0, 1, 0);
        edge("b in 2..3", 1, 2, 3, 2, 2, 2);
        edge("d in 1..2 and b in 1..2", 3, 1, 2, 1, 2, 1);
    }

    private static void edge(String text, int column, int... wants) {
        RunColumns x = eight();
        Due.query(x, text);
        for (int what = 0; what < 5; what++) {
            T.due("edge(0, " + column + ", " + what + ") of '" + text + "'", x.edge(0, column, what), wants[what]);
        }
    }

    private static void two() {
        two("b below 5", "b in 3..7", 2, 8, 3, 0, 0);
        two("b below 3", "b below 5", 3, 5, 0, 0, 1);
        two("b below 5", "b below 3", 3, 5, 2, 0, 0);
        two("b below 3", "b in 0..2", 3, 3, 0, 1, 1);
        two("not all", "b is 2", 0, 1, 0, 0, 1);
        two("b is 2", "not all", 0, 1, 1, 0, 0);
        two("not all", "a is 15", 0, 0, 0, 1, 1);
        two("a is 0", "a is 1", 0, 4, 2, 0, 0);
    }

    private static void two(String first, String second, int... wants) {
        RunColumns x = eight();
        Due.query(x, first);
        Due.query(x, second);
        for (int what = 0; what < 5; what++) {
            T.due("two " + what + " of '" + first + "', '" + second + "'", x.two(0, 1, what), wants[what]);
        }
        T.due("two with itself", x.two(0, 0, 3), 1);
    }

    private static void manyRows() {
        RunColumns x = new RunColumns();
        for (int i = 0; i < 120; i++) {
            x.add(i / 8, i % 16, i % 3, i < 119 ? 0 : 1);
        }
        Due.query(x, "c is 0");
        Due.query(x, "d is 1");
        Due.query(x, "not d is 1");
        Due.query(x, "a in 7..8");
        T.due("every third", x.of(0, 0), 40);
        T.due("its runs", x.of(0, 1), 80);
        T.due("its last", x.of(0, 4), 117);
        T.due("row 39", x.row(0, 39), 117);
        T.due("row 21 lies at 63", x.row(0, 21), 63);
        T.due("row 22 lies at 66", x.row(0, 22), 66);
        T.due("row 40", x.row(0, 40), -5);
        T.due("the last row alone", x.of(1, 3), 119);
        T.due("all but the last", x.of(2, 0), 119);
        T.due("its runs", x.of(2, 1), 2);
        T.due("rows 56 to 71", x.of(3, 3), 56);
        T.due("to 71", x.of(3, 4), 71);
        T.due("in three runs", x.of(3, 1), 3);
        T.due("both", x.two(0, 3, 0), 5);
        T.due("either", x.two(0, 3, 1), 51);
        T.due("group", x.group(2, 0, 14), 7);
        T.due("middle", x.edge(2, 0, 2), 7);
        T.due("middle of 120", x.edge(0, 1, 2), 7);
    }

    private static void rowsComeAndGo() {
        RunColumns x = eight();
        Due.query(x, "not a is 0");
        T.due("before", x.of(0, 0), 6);
        x.mark();
        x.add(5, 5, 5, 5);
        T.due("a row comes", x.of(0, 0), 7);
        T.due("it is the last", x.of(0, 4), 8);
        x.back(0);
        T.due("it is no more", x.of(0, 0), 6);
        T.due("the last then", x.of(0, 4), 7);
    }
}
