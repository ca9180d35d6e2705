/** Each sentence on plans and books that names a boundary: promises 19 to 22. */
final class PlanEdgesTest {
    private static final Due T = new Due("PlanEdgesTest");

    public static void main(String[] args) {
        tenAtMost();
        plan();
        planWrong();
        lastRowGoes();
        rowComes();
        rowsGoAndCome();
        rowThatIsNotThere();
        rowWithoutRoom();
        backToMark();
        markThatIsNotThere();
        marksStay();
        ends();
        endsWrong();
        eightAtMost();
        book();
        bookWrong();
        lookedAt();
        looked();
        T.end();
    }

    /** Rows a 1 2 3 with mark 0 at 1 and mark 1 at 3; query 0 is all, then a is 1, 2, 3. */
    private static RunColumns three() {
        RunColumns x = new RunColumns();
        x.add(1, 4, 5, 6);
        x.mark();
        x.add(2, 0, 0, 0);
        x.add(3, 15, 15, 15);
        x.mark();
        Due.query(x, "all");
        Due.query(x, "a is 1");
        Due.query(x, "a is 2");
        Due.query(x, "a is 3");
        return x;
    }

    /** How many rows there are at the end, and with 1, 2, 3 in a. */
    private static void ends(RunColumns x, String why, int... wants) {
        for (int query = 0; query < 4; query++) {
            T.due(why + ": ends(" + query + ", 0)", x.ends(query, 0), wants[query]);
        }
    }

    private static void tenAtMost() {
        T.sentence("10 rows at most):");
        RunColumns x = three();
        for (int i = 1; i <= 10; i++) {
            T.due("plan " + i, x.plan(1, 0), i);
        }
        T.due("an eleventh: 0", x.plan(0, 0), -4);
        T.due("an eleventh: 1", x.plan(1, 0), -4);
        T.due("an eleventh: 2", x.plan(2, 0), -4);
        T.due("ten", x.count(4), 10);
        ends(x, "all ten come", 13, 11, 1, 1);
        x.plan(-1, 0);
        ends(x, "none comes", 3, 1, 1, 1);
        T.due("there is room again", x.plan(0, 0), 1);
        ends(x, "the one goes", 2, 1, 1, 0);
    }

    private static void plan() {
        T.sentence("A row comes to the PLAN: how many there are (what -1: it is empty then, 0, whatever the rest is).");
        int[] any = {Make.MIN, -1, 0, 4, Make.MAX};
        for (int n : any) {
            RunColumns x = three();
            T.due("plan(-1, " + n + ") when there is none", x.plan(-1, n), 0);
            T.due("one", x.plan(0, n), 1);
            T.due("two", x.plan(0, n), 2);
            T.due("plan(-1, " + n + ")", x.plan(-1, n), 0);
            T.due("empty", x.count(4), 0);
            for (int i = 0; i < 10; i++) {
                x.plan(0, n);
            }
            T.due("plan(-1, " + n + ") is not FULL", x.plan(-1, n), 0);
        }
    }

    private static void planWrong() {
        T.sentence("NONE: what (0 .. 2), row (by 1), mark (by 2; by 0 n does not matter); FULL: 10.");
        RunColumns x = three();
        int[] noWhat = {-2, 3, Make.MIN, Make.MAX};
        for (int round = 0; round < 2; round++) {
            for (int w : noWhat) {
                T.due("plan(" + w + ", 0)", x.plan(w, 0), -1);
            }
            for (int w : Make.outside(0, 2)) {
                T.due("plan(1, " + w + ")", x.plan(1, w), -1);
            }
            for (int w : Make.outside(0, 1)) {
                T.due("plan(2, " + w + ")", x.plan(2, w), -1);
            }
            T.due("none came", x.count(4), round * 10);
            for (int i = 0; round == 0 && i < 10; i++) {
                x.plan(0, -7);
            }
        }
        T.due("FULL", x.plan(0, 0), -4);
        x.plan(-1, 0);
        T.due("the last row", x.plan(1, 2), 1);
        T.due("the last mark", x.plan(2, 1), 2);
        T.due("0 by MIN", x.plan(0, Make.MIN), 3);
        T.due("0 by MAX", x.plan(0, Make.MAX), 4);
        RunColumns none = new RunColumns();
        T.due("no rows", none.plan(1, 0), -1);
        T.due("no marks", none.plan(2, 0), -1);
        T.due("no rows need be there", none.plan(0, 0), 1);
        x.back(0);
        T.due("a row that is no more", x.plan(1, 1), -1);
        T.due("a mark that is no more", x.plan(2, 1), -1);
    }

    private static void lastRowGoes() {
        T.sentence("A PLAN told by hand: what goes (0 the last ROW is no more, if there is one;");
        RunColumns x = three();
        x.plan(0, 0);
        ends(x, "one goes", 2, 1, 1, 0);
        x.plan(0, 0);
        ends(x, "two go", 1, 1, 0, 0);
        x.plan(0, 0);
        ends(x, "three go", 0, 0, 0, 0);
        x.plan(0, 0);
        ends(x, "none is there to go", 0, 0, 0, 0);
        T.due("all are there yet", x.count(0), 3);
        RunColumns none = new RunColumns();
        Due.query(none, "all");
        none.plan(0, 0);
        T.due("without rows", none.ends(0, 0), 0);
        none.add(0, 0, 0, 0);
        T.due("with one now", none.ends(0, 0), 0);
        none.add(0, 0, 0, 0);
        T.due("with two now", none.ends(0, 0), 1);
    }

    private static void rowComes() {
        T.sentence("1 a ROW like ROW n comes, if that one is there then, and room;");
        String[] texts = {"a is 1 and b is 4 and c is 5 and d is 6", "a is 2 and b is 0 and c is 0 and d is 0",
            "a is 3 and b is 15 and c is 15 and d is 15"};
        for (int n = 0; n < 3; n++) {
            RunColumns x = new RunColumns();
            x.add(1, 4, 5, 6);
            x.add(2, 0, 0, 0);
            x.add(3, 15, 15, 15);
            Due.query(x, texts[n]);
            Due.query(x, "all");
            x.plan(1, n);
            T.due("like row " + n + " in all columns", x.ends(0, 0), 2);
            T.due("rows", x.ends(1, 0), 4);
            T.due("runs: last of all", x.ends(0, 1), n == 0 ? 3 : n == 1 ? 4 : 2);
            T.due("none came yet", x.of(0, 0), 1);
        }
    }

    /** What a row had been that goes must not stay where another comes. */
    private static void rowsGoAndCome() {
        for (int v = 0; v < 16; v++) {
            RunColumns x = Make.rows(v, 15 - v);
            Due.query(x, "a is " + v);
            Due.query(x, "a is " + (15 - v));
            Due.query(x, "a in 0..15");
            x.plan(0, 0);
            x.plan(1, 0);
            x.plan(1, 0);
            T.due("with " + v, x.ends(0, 0), 3);
            T.due("with " + (15 - v), x.ends(1, 0), 0);
            T.due("with either", x.ends(2, 0), 3);
            T.due("again", x.ends(0, 0), 3);
            T.due("as it is now", x.of(0, 0), 1);
        }
    }

    private static void rowThatIsNotThere() {
        RunColumns x = three();
        x.plan(0, 0);
        x.plan(1, 2);
        ends(x, "row 2 is gone then", 2, 1, 1, 0);
        x.plan(1, 1);
        ends(x, "row 1 is there", 3, 1, 2, 0);
        x.plan(1, 2);
        ends(x, "row 2 is there again, another one", 4, 1, 3, 0);
        RunColumns y = three();
        y.plan(1, 2);
        y.back(0);
        ends(y, "no more now", 1, 1, 0, 0);
        y.add(3, 0, 0, 0);
        ends(y, "still none of its number", 2, 1, 0, 1);
        y.add(2, 0, 0, 0);
        ends(y, "one of its number", 4, 1, 2, 1);
        RunColumns z = three();
        z.plan(2, 0);
        z.plan(0, 0);
        z.plan(1, 0);
        ends(z, "row 0 is gone then, and all", 0, 0, 0, 0);
    }

    private static void rowWithoutRoom() {
        for (int size = 117; size <= 120; size++) {
            RunColumns x = Make.many(size);
            Due.query(x, "all");
            Due.query(x, "b is 0");
            x.plan(1, 0);
            x.plan(1, 0);
            T.due("of " + size, x.ends(0, 0), Math.min(120, size + 2));
            T.due("with b 0", x.ends(1, 0), 16 + Math.min(2, 120 - size));
            x.plan(0, 0);
            x.plan(1, 0);
            T.due("there is room behind one that goes", x.ends(0, 0), Math.min(120, size + 2));
            T.due("with b 0", x.ends(1, 0), size == 120 ? 17 : 16 + Math.min(2, 120 - size));
        }
    }

    private static void backToMark() {
        T.sentence("2 ROWS from the number that MARK n tells on are no more, if that MARK is there;");
        RunColumns x = three();
        x.plan(2, 1);
        ends(x, "mark 1 tells of all three", 3, 1, 1, 1);
        x.plan(1, 0);
        x.plan(1, 2);
        ends(x, "two come", 5, 2, 1, 2);
        x.plan(2, 1);
        ends(x, "back to three", 3, 1, 1, 1);
        x.plan(2, 0);
        ends(x, "back to one", 1, 1, 0, 0);
        x.plan(0, 0);
        x.plan(2, 0);
        ends(x, "there are fewer than it tells of", 0, 0, 0, 0);
        T.due("all are there yet", x.count(0), 3);
        RunColumns full = new RunColumns();
        full.mark();
        for (int i = 0; i < 120; i++) {
            full.add(1, 0, 0, 0);
        }
        full.mark();
        Due.query(full, "all");
        full.plan(2, 1);
        T.due("mark 1 tells of 120", full.ends(0, 0), 120);
        full.plan(2, 0);
        T.due("mark 0 tells of none", full.ends(0, 0), 0);
    }

    private static void markThatIsNotThere() {
        RunColumns x = three();
        x.plan(1, 0);
        x.plan(2, 1);
        x.back(0);
        ends(x, "mark 1 is no more now", 2, 2, 0, 0);
        x.add(3, 0, 0, 0);
        T.due("mark 1 is there again", x.mark(), 1);
        ends(x, "it tells of two", 2, 1, 0, 1);
    }

    private static void marksStay() {
        T.sentence("MARKS stay all along;");
        RunColumns x = three();
        x.plan(2, 0);
        x.plan(1, 0);
        x.plan(1, 0);
        x.plan(1, 0);
        ends(x, "four like row 0", 4, 4, 0, 0);
        x.plan(2, 1);
        ends(x, "mark 1, behind mark 0, is there yet", 3, 3, 0, 0);
        T.due("both are there", x.count(1), 2);
        T.due("mark 1 tells of three", x.back(1), 0);
        T.due("mark 0 of one", x.back(0), 2);
    }

    private static void ends() {
        T.sentence("ENDS of a QUERY: how many are in RESULT; RUNS.");
        for (int size : Make.SIZES) {
            RunColumns x = Make.many(size);
            Due.query(x, "c is 0");
            Due.query(x, "not all");
            T.due("no plan, of " + size, x.ends(0, 0), x.of(0, 0));
            T.due("runs", x.ends(0, 1), size);
            T.due("none", x.ends(1, 0), 0);
            T.due("runs of none", x.ends(1, 1), Math.min(1, size));
            x.plan(0, 0);
            T.due("one goes, of " + size, x.ends(0, 0), size / 2);
            T.due("runs", x.ends(0, 1), Math.max(0, size - 1));
            T.due("runs of none", x.ends(1, 1), size < 2 ? 0 : 1);
        }
    }

    private static void endsWrong() {
        T.sentence("ENDS of a QUERY: what 0 how many, 1 RUNS. NONE.");
        T.due("without queries", Make.many(5).ends(0, 0), -1);
        RunColumns x = three();
        x.plan(1, 0);
        T.due("how many", x.ends(0, 0), 4);
        T.due("runs", x.ends(1, 1), 3);
        for (int w : Make.outside(0, 3)) {
            T.due("query " + w, x.ends(w, 0), -1);
            T.due("query " + w, x.ends(w, 1), -1);
        }
        for (int w : Make.outside(0, 1)) {
            T.due("what " + w, x.ends(0, w), -1);
        }
    }

    private static void eightAtMost() {
        T.sentence("A BOOK told by hand: QUERIES, how many are in RESULT (0 .. 120; 8 at most):");
        RunColumns x = Make.many(120);
        Due.query(x, "all");
        Due.query(x, "not all");
        for (int i = 1; i <= 8; i++) {
            T.due("book " + i, x.book(i % 2, i % 2 == 0 ? 120 : 0), i);
        }
        T.due("a ninth", x.book(0, 0), -4);
        T.due("eight", x.count(5), 8);
        T.due("all 120, or none, as told; the ninth is not there", x.looked(), -5);
        x.book(-1, 0);
        T.due("there is room again", x.book(0, 0), 1);
        T.due("it is otherwise", x.looked(), 0);
    }

    private static void book() {
        T.sentence("A row comes to the BOOK: how many there are (query -1: it is empty then, 0, whatever the rest is).");
        int[] any = {Make.MIN, -1, 0, 120, 121, Make.MAX};
        for (int n : any) {
            RunColumns x = three();
            T.due("book(-1, " + n + ") when there is none", x.book(-1, n), 0);
            T.due("one", x.book(0, 0), 1);
            T.due("two", x.book(3, 120), 2);
            T.due("book(-1, " + n + ")", x.book(-1, n), 0);
            T.due("empty", x.count(5), 0);
            for (int i = 0; i < 8; i++) {
                x.book(1, i);
            }
            T.due("book(-1, " + n + ") is not FULL", x.book(-1, n), 0);
            T.due("without queries", new RunColumns().book(-1, n), 0);
        }
    }

    private static void bookWrong() {
        T.sentence("NONE; BAD: n; FULL: 8.");
        RunColumns x = three();
        int[] noQuery = {-2, 4, 7, 8, Make.MIN, Make.MAX};
        for (int round = 0; round < 2; round++) {
            for (int w : noQuery) {
                T.due("book(" + w + ", 0)", x.book(w, 0), -1);
                T.due("NONE stands ahead of BAD: " + w, x.book(w, 121), -1);
            }
            for (int w : Make.outside(0, 120)) {
                T.due("book(0, " + w + ")", x.book(0, w), -2);
            }
            T.due("none came", x.count(5), round * 8);
            for (int i = 0; round == 0 && i < 8; i++) {
                x.book(0, 0);
            }
        }
        T.due("FULL", x.book(0, 0), -4);
        x.book(-1, 0);
        T.due("120", x.book(3, 120), 1);
        T.due("0", x.book(0, 0), 2);
        T.due("without queries", new RunColumns().book(0, 0), -1);
    }

    private static void lookedAt() {
        T.sentence("LOOKED at: the number (from 0) of the first of these rows by which it is otherwise now (-5: none).");
        for (int at = 0; at < 8; at++) {
            RunColumns x = three();
            for (int i = 0; i < 8; i++) {
                x.book(1, i == at ? 0 : 1);
            }
            T.due("the one at " + at, x.looked(), at);
            RunColumns y = three();
            for (int i = 0; i < 8; i++) {
                y.book(1, i >= at ? 2 : 1);
            }
            T.due("from " + at + " on", y.looked(), at);
        }
        RunColumns x = three();
        x.book(0, 3);
        x.book(1, 1);
        T.due("none", x.looked(), -5);
        x.mark();
        x.add(2, 2, 2, 2);
        T.due("now row 0 is otherwise", x.looked(), 0);
        x.back(2);
        T.due("now none", x.looked(), -5);
        x.back(0);
        T.due("now row 0 is", x.looked(), 0);
    }

    private static void looked() {
        T.sentence("LOOKED at; -5.");
        T.due("no book, no rows, no queries", new RunColumns().looked(), -5);
        T.due("no book", three().looked(), -5);
        RunColumns none = new RunColumns();
        Due.query(none, "all");
        none.book(0, 0);
        T.due("0 without rows", none.looked(), -5);
        none.book(0, 1);
        T.due("1 without rows", none.looked(), 1);
        RunColumns full = Make.many(120);
        Due.query(full, "all");
        full.book(0, 120);
        T.due("120 of 120", full.looked(), -5);
        full.book(0, 119);
        T.due("119 of 120", full.looked(), 1);
    }
}
