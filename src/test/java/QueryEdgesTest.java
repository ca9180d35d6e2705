/** Each sentence on results, costs, groups and two queries that names a boundary: promises 10 to 14. */
final class QueryEdgesTest {
    private static final Due T = new Due("QueryEdgesTest");

    public static void main(String[] args) {
        resultOfAll();
        resultOfIs();
        resultOfBelow();
        resultOfIn();
        resultOfNotAndOr();
        costOfAll();
        costOfIs();
        costOfBelowAndIn();
        costOfNot();
        costOfAndOr();
        greatestCost();
        of();
        depth();
        ofWrong();
        row();
        group();
        groupWrong();
        leastGreatestMiddle();
        unlikeAndGreatestGroup();
        edge();
        twoQueries();
        two();
        T.end();
    }

    private static RunColumns with(RunColumns x, String... texts) {
        for (int i = 0; i < texts.length; i++) {
            T.due("query() of '" + texts[i] + "'", Due.query(x, texts[i]), i);
        }
        return x;
    }

    private static void resultOfAll() {
        T.sentence("RESULT of a QUERY: BITS, for each of ROWS whether it is so: all: always;");
        for (int size : Make.SIZES) {
            RunColumns x = with(Make.many(size), "all", "not all");
            T.due("all of " + size, x.of(0, 0), size);
            T.due("its last", x.of(0, 4), size == 0 ? -5 : size - 1);
            T.due("its runs", x.of(0, 1), Math.min(1, size));
            T.due("none of " + size, x.of(1, 0), 0);
            T.due("its first", x.of(1, 3), -5);
            T.due("its runs", x.of(1, 1), Math.min(1, size));
        }
    }

    private static void resultOfIs() {
        T.sentence("is: the VALUE in the COLUMN is V;");
        for (int v = 0; v < 16; v++) {
            RunColumns x = with(Make.sixteen(), "a is " + v, "b is " + v, "c is " + v);
            T.due("a is " + v, x.of(0, 0), 1);
            T.due("its row", x.row(0, 0), v);
            T.due("b is " + v, x.row(1, 0), 15 - v);
            T.due("c is " + v, x.of(2, 0), v == 0 ? 16 : 0);
        }
    }

    private static void resultOfBelow() {
        T.sentence("below: less than V;");
        for (int v = 0; v < 16; v++) {
            RunColumns x = with(Make.sixteen(), "a below " + v, "b below " + v, "c below " + v);
            T.due("a below " + v, x.of(0, 0), v);
            T.due("its first", x.of(0, 3), v == 0 ? -5 : 0);
            T.due("its last", x.of(0, 4), v == 0 ? -5 : v - 1);
            T.due("b below " + v, x.of(1, 3), v == 0 ? -5 : 16 - v);
            T.due("c below " + v, x.of(2, 0), v == 0 ? 0 : 16);
        }
    }

    private static void resultOfIn() {
        T.sentence("in: from the first V to the second (none, if that is less);");
        for (int first = 0; first < 16; first++) {
            for (int second = 0; second < 16; second++) {
                String text = "a in " + first + ".." + second;
                RunColumns x = with(Make.sixteen(), text);
                boolean isNone = second < first;
                T.due(text, x.of(0, 0), isNone ? 0 : second - first + 1);
                T.due(text + ": the first", x.of(0, 3), isNone ? -5 : first);
                T.due(text + ": the last", x.of(0, 4), isNone ? -5 : second);
            }
        }
    }

    private static void resultOfNotAndOr() {
        T.sentence("not, and, or as they say (and ahead of or).");
        // In a and b each of the four pairs of 0 and 1; c has the row's number.
        RunColumns x = new RunColumns();
        for (int i = 0; i < 8; i++) {
            x.add(i % 2, i / 2 % 2, i / 4, 0);
        }
        with(x, "not a is 1", "a is 1 and b is 1", "a is 1 or b is 1", "a is 1 or b is 1 and c is 1",
                "a is 1 and b is 1 or c is 1", "(a is 1 or b is 1) and c is 1", "not a is 1 and b is 1", "not (a is 1 or b is 1)");
        int[] wants = {0b01010101, 0b10001000, 0b11101110, 0b11101010, 0b11111000, 0b11100000, 0b01000100, 0b00010001};
        for (int query = 0; query < 8; query++) {
            int seen = 0;
            for (int k = 0; k < x.of(query, 0); k++) {
                seen |= 1 << x.row(query, k);
            }
            T.due("rows of query " + query, seen, wants[query]);
        }
        for (int size : Make.SIZES) {
            RunColumns y = with(Make.many(size), "not c is 1", "c is 1 or not c is 1", "c is 1 and not c is 1", "not not c is 1");
            T.due("not, of " + size, y.of(0, 0), size - size / 2);
            T.due("or, of " + size, y.of(1, 0), size);
            T.due("and, of " + size, y.of(2, 0), 0);
            T.due("not not, of " + size, y.of(3, 0), size / 2);
            T.due("no row behind the last", y.of(1, 4), size == 0 ? -5 : size - 1);
        }
    }

    private static void costOfAll() {
        T.sentence("COST of a QUERY: all: 0;");
        for (int size : Make.SIZES) {
            T.due("all, of " + size, with(Make.many(size), "all").of(0, 2), 0);
        }
    }

    private static void costOfIs() {
        T.sentence("is: RUNS of it;");
        for (int size : Make.SIZES) {
            RunColumns x = with(Make.many(size), "c is 1", "d is 15", "d is 0");
            T.due("of " + size, x.of(0, 2), size);
            T.due("all alike, of " + size, x.of(1, 2), Math.min(1, size));
            T.due("zeros, of " + size, x.of(2, 2), Math.min(1, size));
        }
        RunColumns x = with(Make.sixteen(), "a is 0", "a is 1", "a is 15");
        T.due("the first alone", x.of(0, 2), 2);
        T.due("one within", x.of(1, 2), 3);
        T.due("the last alone", x.of(2, 2), 2);
    }

    private static void costOfBelowAndIn() {
        T.sentence("below, in: RUNS of the four SLICES of its COLUMN, together (SLICE k of a COLUMN: bit k of its VALUES);");
        String[] texts = {"below 0", "below 1", "below 15", "in 0..0", "in 0..15", "in 15..15", "in 15..0"};
        for (String text : texts) {
            T.due("a " + text, with(Make.sixteen(), "a " + text).of(0, 2), 16 + 8 + 4 + 2);
            T.due("b " + text, with(Make.sixteen(), "b " + text).of(0, 2), 16 + 8 + 4 + 2);
            T.due("c " + text + ", all 0", with(Make.sixteen(), "c " + text).of(0, 2), 4);
            T.due("d " + text + ", all 15", with(Make.many(120), "d " + text).of(0, 2), 4);
            T.due("c " + text + ", 0 and 1 in turn", with(Make.many(120), "c " + text).of(0, 2), 120 + 3);
            T.due("without rows: a " + text, with(new RunColumns(), "a " + text).of(0, 2), 0);
            T.due("one row: a " + text, with(Make.rows(9), "a " + text).of(0, 2), 4);
            for (int k = 0; k < 4; k++) {
                T.due("slice " + k + " changes", with(Make.rows(0, 1 << k, 0), "a " + text).of(0, 2), 4 + 2);
            }
        }
    }

    private static void costOfNot() {
        T.sentence("not: COST of what is in it;");
        RunColumns x = with(Make.sixteen(), "not all", "not a is 1", "not a below 0", "not not a is 1", "not not not not not not a is 1",
                "not (all or all)");
        int[] wants = {0, 3, 30, 3, 3, 2};
        for (int query = 0; query < wants.length; query++) {
            T.due("cost of query " + query, x.of(query, 2), wants[query]);
        }
    }

    private static void costOfAndOr() {
        T.sentence("and, or: COST of both, and RUNS of both, together.");
        RunColumns none = with(new RunColumns(), "all or all", "a is 1 and b below 2");
        T.due("without rows", none.of(0, 2), 0);
        T.due("without rows", none.of(1, 2), 0);
        RunColumns x = with(Make.sixteen(), "all or all", "all and not all", "a is 0 or a is 1", "a is 0 and a is 1",
                "a below 3 or a is 1", "a in 3..1 and a is 1", "a is 1 or a is 1", "(a is 0 or a is 1) and (a is 4 or a is 6)");
        int[] wants = {2, 2, 2 + 3 + 2 + 3, 2 + 3 + 2 + 3, 30 + 3 + 2 + 3, 30 + 3 + 1 + 3, 3 + 3 + 3 + 3,
            (2 + 3 + 2 + 3) + (3 + 3 + 3 + 3) + 2 + 5};
        for (int query = 0; query < wants.length; query++) {
            T.due("cost of query " + query, x.of(query, 2), wants[query]);
        }
    }

    private static void greatestCost() {
        RunColumns x = new RunColumns();
        for (int i = 0; i < 120; i++) {
            x.add(i % 2 * 15, 0, 0, 0);
        }
        with(x, "a in 0..0 or a in 0..0 or a in 0..0 or a in 0..0 or a in 0..0 or a in 0..0 or a in 0..0 or a in 0..0");
        T.due("eight times all slices, and seven times both", x.of(0, 2), 8 * 480 + 7 * 240);
    }

    private static void of() {
        T.sentence("Of a QUERY what 0 how many are in RESULT, 1 RUNS, 2 COST, 3 its first ROW, 4 its last (-5: none),");
        int[] lone = {0, 63, 64, 119};
        for (int place : lone) {
            RunColumns x = new RunColumns();
            for (int i = 0; i < 120; i++) {
                x.add(i == place ? 7 : 6, 0, 0, 0);
            }
            with(x, "a is 7", "a is 6", "a is 5");
            int[] wants = {1, place == 0 || place == 119 ? 2 : 3, place == 0 || place == 119 ? 2 : 3, place, place};
            for (int what = 0; what < 5; what++) {
                T.due("row " + place + " alone: of(0, " + what + ")", x.of(0, what), wants[what]);
            }
            T.due("all but it", x.of(1, 0), 119);
            T.due("their first", x.of(1, 3), place == 0 ? 1 : 0);
            T.due("their last", x.of(1, 4), place == 119 ? 118 : 119);
            T.due("none: how many", x.of(2, 0), 0);
            T.due("none: runs", x.of(2, 1), 1);
            T.due("none: first", x.of(2, 3), -5);
            T.due("none: last", x.of(2, 4), -5);
        }
        T.sentence("5 how many of is, below, in, all it has, 6 how many not,");
        RunColumns x = with(new RunColumns(), "all", "a is 1", "a below 1", "a in 1..2", "not all", "not not not not not not all",
                "all or a is 1 or a below 1 or a in 1..2 and not all and not a is 1 or not (not a is 2 or all)",
                "all or all or all or all or all or all or all or all or all or all or all or all or all or a is 1");
        int[] leaves = {1, 1, 1, 1, 1, 1, 8, 14};
        int[] nots = {0, 0, 0, 0, 1, 6, 4, 0};
        for (int query = 0; query < 8; query++) {
            T.due("of(" + query + ", 5)", x.of(query, 5), leaves[query]);
            T.due("of(" + query + ", 6)", x.of(query, 6), nots[query]);
        }
    }

    private static void depth() {
        T.sentence("7 how deep it is (one of these: 1; not: 1 more than what is in it; and, or: 1 more than the deeper).");
        RunColumns x = with(new RunColumns(), "all", "(((a is 1)))", "not all", "not not not not not not all", "all and all",
                "all or (all or (all or (all or (all or (all or all)))))",
                "all or all or all or all or all or all or all or all or all or all or all or all or all or a is 1",
                "not not all and all or not not not all");
        int[] wants = {1, 1, 2, 7, 2, 7, 14, 5};
        for (int query = 0; query < 8; query++) {
            T.due("of(" + query + ", 7)", x.of(query, 7), wants[query]);
        }
        RunColumns y = with(new RunColumns(), "not all or all", "all or not all", "not all or not all", "b below 1 and c in 1..2");
        int[] either = {3, 3, 3, 2};
        for (int query = 0; query < 4; query++) {
            T.due("of(" + query + ", 7)", y.of(query, 7), either[query]);
        }
        // Twelve parts wait for what joins them: no text of 100 bytes has more.
        RunColumns most = with(Make.sixteen(),
                "all or all and (all or all and (all or all and (all or all and (all or all and (all and all)))))");
        int[] of = {16, 1, 11 * 2, 0, 15, 12, 0, 12};
        for (int what = 0; what <= 7; what++) {
            T.due("twelve parts: of(0, " + what + ")", most.of(0, what), of[what]);
        }
    }

    private static void ofWrong() {
        T.sentence("and, or: 1 more than the deeper). NONE.");
        RunColumns none = new RunColumns();
        T.due("without queries", none.of(0, 0), -1);
        RunColumns x = with(Make.many(5), "all", "a is 1");
        for (int w : Make.outside(0, 1)) {
            for (int what = -1; what <= 8; what++) {
                T.due("of(" + w + ", " + what + ")", x.of(w, what), -1);
            }
        }
        for (int w : Make.outside(0, 7)) {
            T.due("of(1, " + w + ")", x.of(1, w), -1);
        }
    }

    private static void row() {
        T.sentence("ROW k (0 the first) of RESULT (-5). NONE: query, k is below 0.");
        for (int size : Make.SIZES) {
            RunColumns x = with(Make.many(size), "c is 0", "all", "not all");
            int have = size - size / 2;
            T.due("the first of " + size, x.row(0, 0), size == 0 ? -5 : 0);
            T.due("the last of " + size, x.row(0, have - 1), size == 0 ? -1 : 2 * (have - 1));
            T.due("one more of " + size, x.row(0, have), -5);
            T.due("MAX of " + size, x.row(0, Make.MAX), -5);
            T.due("the last of all " + size, x.row(1, size), -5);
            T.due("of none", x.row(2, 0), -5);
            T.due("k -1", x.row(0, -1), -1);
            T.due("k MIN", x.row(0, Make.MIN), -1);
            for (int w : Make.outside(0, 2)) {
                T.due("query " + w, x.row(w, 0), -1);
                T.due("query " + w + ", k MAX", x.row(w, Make.MAX), -1);
            }
        }
        RunColumns full = with(Make.many(120), "all");
        for (int k = 0; k < 120; k++) {
            T.due("row " + k, full.row(0, k), k);
        }
        T.due("row 120", full.row(0, 120), -5);
    }

    private static void group() {
        T.sentence("GROUP of a QUERY by a COLUMN: for each VALUE how many ROWS of RESULT have it there.");
        RunColumns x = with(Make.many(120), "all", "not all", "a is 15", "not a is 15");
        for (int v = 0; v < 16; v++) {
            T.due("all, a " + v, x.group(0, 0, v), v < 8 ? 8 : 7);
            T.due("all, b " + v, x.group(0, 1, v), v < 7 ? 16 : v == 7 ? 8 : 0);
            T.due("all, c " + v, x.group(0, 2, v), v < 2 ? 60 : 0);
            T.due("all, d " + v, x.group(0, 3, v), v == 15 ? 120 : 0);
            T.due("none, d " + v, x.group(1, 3, v), 0);
            T.due("some, a " + v, x.group(2, 0, v), v == 15 ? 7 : 0);
            T.due("others, a " + v, x.group(3, 0, v), v == 15 ? 0 : v < 8 ? 8 : 7);
        }
        T.due("without rows", with(new RunColumns(), "all").group(0, 0, 0), 0);
    }

    private static void groupWrong() {
        T.sentence("GROUP: how many of RESULT have v in a COLUMN. NONE.");
        T.due("without queries", Make.many(5).group(0, 0, 0), -1);
        RunColumns x = with(Make.many(5), "all");
        for (int w : Make.outside(0, 0)) {
            T.due("query " + w, x.group(w, 0, 0), -1);
        }
        for (int w : Make.outside(0, 3)) {
            T.due("column " + w, x.group(0, w, 0), -1);
        }
        for (int w : Make.outside(0, 15)) {
            T.due("v " + w, x.group(0, 0, w), -1);
        }
        RunColumns none = with(new RunColumns(), "all");
        T.due("without rows: query", none.group(1, 0, 0), -1);
        T.due("without rows: column", none.group(0, 4, 0), -1);
        T.due("without rows: v", none.group(0, 0, 16), -1);
    }

    private static void leastGreatestMiddle() {
        T.sentence("LEAST, GREATEST, MIDDLE of these (MIDDLE: the least VALUE so that half of them or more have that or less).");
        edges("one row", new int[] {9}, 9, 9, 9);
        edges("a 0", new int[] {0}, 0, 0, 0);
        edges("a 15", new int[] {15}, 15, 15, 15);
        edges("just half have the less", new int[] {15, 0}, 0, 15, 0);
        edges("less than half", new int[] {0, 15, 15}, 0, 15, 15);
        edges("more than half", new int[] {0, 15, 0}, 0, 15, 0);
        edges("half by two values", new int[] {8, 3, 1, 9}, 1, 9, 3);
        edges("one short of half", new int[] {1, 8, 8, 9, 9}, 1, 9, 8);
        edges("all alike", new int[] {4, 4, 4, 4}, 4, 4, 4);
        edges("each once", new int[] {0, 1, 2, 3, 4, 5, 6, 7, 8, 9, 10, 11, 12, 13, 14, 15}, 0, 15, 7);
        int[] most = new int[120];
        for (int i = 60; i < 120; i++) {
            most[i] = 15;
        }
        edges("60 and 60", most, 0, 15, 0);
        most[0] = 15;
        edges("59 and 61", most, 0, 15, 15);
    }

    private static void edges(String why, int[] values, int least, int greatest, int middle) {
        RunColumns x = with(Make.rows(values), "all");
        int[] wants = {least, greatest, middle};
        for (int what = 0; what < 3; what++) {
            T.due(why + ": edge(0, 0, " + what + ")", x.edge(0, 0, what), wants[what]);
            T.due("by b", x.edge(0, 1, what), 0);
        }
    }

    private static void unlikeAndGreatestGroup() {
        T.sentence("UNLIKE: how many VALUES there are. GREATEST GROUP: the VALUE that most have (of several the least).");
        groups("one row", new int[] {15}, 1, 15);
        groups("each once", new int[] {15, 14, 13, 12, 11, 10, 9, 8, 7, 6, 5, 4, 3, 2, 1, 0}, 16, 0);
        groups("two of two", new int[] {15, 3, 15, 3}, 2, 3);
        groups("of two the one with more", new int[] {15, 3, 15}, 2, 15);
        groups("of three the least of two", new int[] {9, 9, 4, 4, 1}, 3, 4);
        groups("0 counts", new int[] {0, 7}, 2, 0);
        groups("all alike", new int[] {6, 6, 6}, 1, 6);
    }

    private static void groups(String why, int[] values, int unlike, int greatestGroup) {
        RunColumns x = with(Make.rows(values), "all");
        T.due(why + ": edge(0, 0, 3)", x.edge(0, 0, 3), unlike);
        T.due(why + ": edge(0, 0, 4)", x.edge(0, 0, 4), greatestGroup);
    }

    private static void edge() {
        T.sentence("Of VALUES in a COLUMN, of RESULT: what 0 LEAST, 1 GREATEST, 2 MIDDLE, 3 UNLIKE, 4 GREATEST GROUP (-5: RESULT is empty; 3: 0). NONE.");
        RunColumns[] empty = {with(new RunColumns(), "all"), with(Make.many(120), "not all"), with(Make.rows(0), "a is 1")};
        for (RunColumns x : empty) {
            for (int column = 0; column < 4; column++) {
                for (int what = 0; what < 5; what++) {
                    T.due("empty: edge(0, " + column + ", " + what + ")", x.edge(0, column, what), what == 3 ? 0 : -5);
                }
                T.due("empty: what 5", x.edge(0, column, 5), -1);
                T.due("empty: what -1", x.edge(0, column, -1), -1);
            }
        }
        T.due("without queries", Make.many(5).edge(0, 0, 0), -1);
        RunColumns x = with(Make.many(120), "a in 3..4 and c is 0");
        int[] wants = {4, 4, 4, 1, 4};
        for (int what = 0; what < 5; what++) {
            T.due("of RESULT alone: edge(0, 0, " + what + ")", x.edge(0, 0, what), wants[what]);
            for (int w : Make.outside(0, 0)) {
                T.due("query " + w, x.edge(w, 0, what), -1);
            }
            for (int w : Make.outside(0, 3)) {
                T.due("column " + w, x.edge(0, w, what), -1);
            }
        }
        for (int w : Make.outside(0, 4)) {
            T.due("what " + w, x.edge(0, 0, w), -1);
        }
    }

    private static void twoQueries() {
        T.sentence("TWO QUERIES: how many ROWS are in both RESULTS; in either; in the first alone; whether they are alike; whether the first lies in the second.");
        two(0, "all", "all", 0, 0, 0, 1, 1);
        two(0, "all", "not all", 0, 0, 0, 1, 1);
        for (int size : Make.SIZES) {
            if (size > 0) {
                two(size, "all", "all", size, size, 0, 1, 1);
                two(size, "all", "not all", 0, size, size, 0, 0);
                two(size, "not all", "all", 0, size, 0, 0, 1);
                two(size, "not all", "not all", 0, 0, 0, 1, 1);
            }
        }
        two(120, "c is 0", "c is 1", 0, 120, 60, 0, 0);
        two(120, "c is 0", "not c is 1", 60, 60, 0, 1, 1);
        two(120, "a is 0", "c is 0", 8, 60, 0, 0, 1);
        two(120, "c is 0", "a is 0", 8, 60, 52, 0, 0);
        two(120, "a below 2", "c is 0", 8, 68, 8, 0, 0);
        // One row makes the difference, in either long.
        two(120, "all", "not (a is 15 and b is 3)", 119, 120, 1, 0, 0);
        two(120, "not (a is 15 and b is 3)", "all", 119, 120, 0, 0, 1);
        two(120, "all", "not (a is 0 and b is 4)", 119, 120, 1, 0, 0);
        two(120, "not (a is 0 and b is 4)", "all", 119, 120, 0, 0, 1);
    }

    private static void two(int size, String first, String second, int... wants) {
        RunColumns x = with(Make.many(size), first, second);
        for (int what = 0; what < 5; what++) {
            T.due("two(0, 1, " + what + ") of '" + first + "', '" + second + "', " + size + " rows", x.two(0, 1, what), wants[what]);
        }
    }

    private static void two() {
        T.sentence("Of TWO QUERIES what 0 in both, 1 in either, 2 in the first alone, 3 whether alike, 4 whether the first lies in the second. NONE.");
        T.due("without queries", Make.many(5).two(0, 0, 3), -1);
        RunColumns x = with(Make.many(5), "all", "c is 1");
        int[] itself = {2, 2, 0, 1, 1};
        for (int what = 0; what < 5; what++) {
            T.due("by itself: two(1, 1, " + what + ")", x.two(1, 1, what), itself[what]);
            for (int w : Make.outside(0, 1)) {
                T.due("query " + w, x.two(w, 0, what), -1);
                T.due("other " + w, x.two(0, w, what), -1);
                T.due("both " + w, x.two(w, w, what), -1);
            }
        }
        for (int w : Make.outside(0, 4)) {
            T.due("what " + w, x.two(0, 1, w), -1);
        }
    }
}
