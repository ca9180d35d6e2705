/** Each sentence on what is seen, on bounds, odds and means that names a boundary: promises 15 to 18. */
final class SeenEdgesTest {
    private static final Due T = new Due("SeenEdgesTest");

    public static void main(String[] args) {
        sixAtMost();
        see();
        noneSeen();
        boundsByOne();
        boundsByTwo();
        rowsThatAreNoMore();
        boundsWrong();
        odds();
        oddsWithoutRows();
        oddsWrong();
        mean();
        meanOfNone();
        meanWrong();
        T.end();
    }

    private static void sixAtMost() {
        T.sentence("SEEN told by hand: a ROW, whether it is in RESULT (6 rows at most).");
        RunColumns x = Make.sixteen();
        for (int i = 0; i < 6; i++) {
            T.due("see " + i, x.see(10 + i, false), i + 1);
        }
        T.due("a seventh", x.see(0, true), -4);
        T.due("six", x.count(3), 6);
        T.due("the seventh tells nothing", x.bounds(0, 0), 11);
        T.due("the sixth does", x.bounds(1, 1), 0);
        x.see(-1, true);
        T.due("there is room again", x.see(5, true), 1);
        T.due("nothing of the six stays", x.bounds(0, 1), 6);
    }

    private static void see() {
        T.sentence("What is SEEN comes: how many there are (row -1: none then, 0, whatever the rest is). NONE; FULL: 6.");
        RunColumns none = new RunColumns();
        T.due("without rows", none.see(0, true), -1);
        T.due("row -1 without rows", none.see(-1, true), 0);
        for (int size : Make.SIZES) {
            if (size == 0) {
                continue;
            }
            RunColumns x = Make.many(size);
            int[] noRow = {size, 120, -2, Make.MIN, Make.MAX};
            for (int w : noRow) {
                T.due("see(" + w + ") of " + size, x.see(w, false), -1);
            }
            T.due("none came", x.count(3), 0);
            T.due("the last of " + size, x.see(size - 1, true), 1);
            T.due("the first of " + size, x.see(0, true), 2);
            T.due("the same again", x.see(0, true), 3);
            T.due("and otherwise", x.see(0, false), 4);
            T.due("row -1, true", x.see(-1, true), 0);
            T.due("none", x.count(3), 0);
            T.due("row -1 when there is none, false", x.see(-1, false), 0);
            for (int i = 1; i <= 6; i++) {
                T.due("see " + i, x.see(0, i % 2 == 0), i);
            }
            T.due("a seventh", x.see(0, true), -4);
            for (int w : noRow) {
                T.due("NONE stands ahead of FULL: " + w, x.see(w, true), -1);
            }
            T.due("row -1 is not FULL", x.see(-1, false), 0);
        }
        RunColumns x = Make.many(3);
        x.mark();
        x.add(0, 0, 0, 0);
        x.back(0);
        T.due("a row that is no more", x.see(3, true), -1);
    }

    private static void bounds(RunColumns x, String why, int column, int howMany, int least) {
        T.due(why + ": bounds(" + column + ", 0)", x.bounds(column, 0), howMany);
        T.due(why + ": bounds(" + column + ", 1)", x.bounds(column, 1), least);
    }

    private static void noneSeen() {
        T.sentence("BOUNDS of a COLUMN: how many V 0 .. 15 there are by which the QUERY COLUMN below V would have all of SEEN so");
        bounds(new RunColumns(), "no rows", 0, 16, 0);
        bounds(Make.many(120), "none seen", 3, 16, 0);
        RunColumns x = Make.rows(15);
        x.see(0, true);
        bounds(x, "15 is in", 0, 0, -5);
        x.see(-1, true);
        bounds(x, "none seen any more", 0, 16, 0);
    }

    private static void boundsByOne() {
        T.sentence("the least (-5: none).");
        for (int v = 0; v < 16; v++) {
            RunColumns x = Make.rows(v);
            x.see(0, true);
            bounds(x, v + " is in: above it", 0, 15 - v, v == 15 ? -5 : v + 1);
            bounds(x, "0 is in: all but 0", 1, 15, 1);
            x.see(-1, true);
            x.see(0, false);
            bounds(x, v + " is not: to it", 0, v + 1, 0);
            bounds(x, "0 is not: 0 alone", 1, 1, 0);
        }
    }

    private static void boundsByTwo() {
        for (int in = 0; in < 16; in++) {
            for (int out = 0; out < 16; out++) {
                RunColumns x = Make.rows(in, out);
                x.see(0, true);
                x.see(1, false);
                bounds(x, in + " is in, " + out + " is not", 0, Math.max(0, out - in), in < out ? in + 1 : -5);
            }
        }
        RunColumns x = Make.rows(3, 9);
        x.see(0, true);
        x.see(0, true);
        x.see(1, false);
        x.see(1, false);
        x.see(0, true);
        bounds(x, "told over and over", 0, 6, 4);
        x.see(1, true);
        bounds(x, "the last told is otherwise", 0, 0, -5);
    }

    private static void rowsThatAreNoMore() {
        T.sentence("(a ROW that is no more: not so);");
        boolean[] told = {true, false};
        for (boolean isIn : told) {
            RunColumns x = Make.rows(0);
            x.mark();
            x.add(0, 0, 0, 0);
            x.see(1, isIn);
            x.back(0);
            T.due("it stays SEEN", x.count(3), 1);
            bounds(x, "no more, told " + isIn, 0, 0, -5);
            x.see(0, true);
            bounds(x, "no more, with another, told " + isIn, 0, 0, -5);
            x.add(7, 7, 7, 7);
            bounds(x, "there is such a row again, told " + isIn, 0, isIn ? 8 : 7, isIn ? 8 : 1);
        }
        RunColumns all = new RunColumns();
        all.mark();
        all.add(1, 1, 1, 1);
        all.see(0, false);
        all.back(0);
        bounds(all, "no rows at all", 2, 0, -5);
    }

    private static void boundsWrong() {
        T.sentence("BOUNDS: what 0 how many, 1 the least; -5. NONE.");
        RunColumns x = Make.rows(4, 15);
        x.see(0, true);
        bounds(x, "4 is in", 0, 11, 5);
        x.see(1, true);
        bounds(x, "none: -5", 0, 0, -5);
        RunColumns[] both = {x, new RunColumns()};
        for (RunColumns y : both) {
            for (int w : Make.outside(0, 3)) {
                T.due("column " + w, y.bounds(w, 0), -1);
                T.due("column " + w, y.bounds(w, 1), -1);
            }
            for (int w : Make.outside(0, 1)) {
                T.due("what " + w, y.bounds(0, w), -1);
            }
        }
    }

    private static void fraction(String why, RunColumns x, int query, long above, long below) {
        T.due(why + ": odds(" + query + ", 0)", x.odds(query, 0), above);
        T.due(why + ": odds(" + query + ", 1)", x.odds(query, 1), below);
    }

    private static void odds() {
        T.sentence("ODDS of a QUERY: of ROWS, each alike likely, that one is in RESULT: a fraction in lowest terms");
        for (int size : Make.SIZES) {
            if (size == 0) {
                continue;
            }
            RunColumns x = Make.many(size);
            Due.query(x, "all");
            Due.query(x, "not all");
            fraction("all of " + size, x, 0, 1, 1);
            fraction("none of " + size, x, 1, 0, 1);
        }
        for (int ones = 0; ones <= 120; ones++) {
            RunColumns x = new RunColumns();
            for (int i = 0; i < 120; i++) {
                x.add(i < ones ? 1 : 0, 0, 0, 0);
            }
            Due.query(x, "a is 1");
            int by = 1;
            for (int d = 2; d <= 120; d++) {
                by = ones % d == 0 && 120 % d == 0 ? d : by;
            }
            fraction(ones + " of 120", x, 0, ones / by, 120 / by);
        }
        RunColumns prime = new RunColumns();
        for (int i = 0; i < 113; i++) {
            prime.add(i < 89 ? 1 : 0, 0, 0, 0);
        }
        Due.query(prime, "a is 1");
        fraction("89 of 113", prime, 0, 89, 113);
    }

    private static void oddsWithoutRows() {
        T.sentence("(NO: no ROWS).");
        RunColumns x = new RunColumns();
        Due.query(x, "all");
        fraction("no rows", x, 0, Make.NO, Make.NO);
        x.mark();
        x.add(1, 1, 1, 1);
        fraction("a row", x, 0, 1, 1);
        x.back(0);
        fraction("it is no more", x, 0, Make.NO, Make.NO);
    }

    private static void oddsWrong() {
        T.sentence("ODDS; part 0 above, 1 below the line. NO: query, part.");
        T.due("without queries", Make.many(5).odds(0, 0), Make.NO);
        RunColumns x = Make.rows(0, 1, 1);
        Due.query(x, "a is 1");
        fraction("2 of 3", x, 0, 2, 3);
        for (int w : Make.outside(0, 0)) {
            T.due("query " + w, x.odds(w, 0), Make.NO);
            T.due("query " + w, x.odds(w, 1), Make.NO);
        }
        for (int w : Make.outside(0, 1)) {
            T.due("part " + w, x.odds(0, w), Make.NO);
        }
    }

    private static void mean(String why, RunColumns x, int query, int column, long above, long below) {
        T.due(why + ": mean(" + query + ", " + column + ", 0)", x.mean(query, column, 0), above);
        T.due(why + ": mean(" + query + ", " + column + ", 1)", x.mean(query, column, 1), below);
    }

    private static void mean() {
        T.sentence("MEAN of a COLUMN by a QUERY: VALUES there of ROWS in RESULT, together, by how many they are: a fraction in lowest terms");
        for (int size : Make.SIZES) {
            if (size == 0) {
                continue;
            }
            RunColumns x = Make.many(size);
            Due.query(x, "all");
            mean("15 each, of " + size, x, 0, 3, 15, 1);
            Due.query(x, "c is 0");
            mean("0 each, of " + size, x, 1, 2, 0, 1);
        }
        RunColumns x = Make.sixteen();
        Due.query(x, "all");
        Due.query(x, "a below 3");
        Due.query(x, "a in 13..15 or a is 0");
        Due.query(x, "a is 15");
        mean("120 by 16", x, 0, 0, 15, 2);
        mean("3 by 3", x, 1, 0, 1, 1);
        mean("42 by 3", x, 1, 1, 14, 1);
        mean("42 by 4", x, 2, 0, 21, 2);
        mean("15 by 1", x, 3, 0, 15, 1);
        mean("0 by 1", x, 3, 1, 0, 1);
        RunColumns lowest = Make.rows(1, 0, 0, 0, 0, 0, 0);
        Due.query(lowest, "all");
        mean("1 by 7", lowest, 0, 0, 1, 7);
        RunColumns most = new RunColumns();
        for (int i = 0; i < 120; i++) {
            most.add(i == 0 ? 14 : 15, 0, 0, 0);
        }
        Due.query(most, "all");
        mean("1799 by 120", most, 0, 0, 1799, 120);
    }

    private static void meanOfNone() {
        T.sentence("(NO: there are none).");
        RunColumns none = new RunColumns();
        Due.query(none, "all");
        mean("no rows", none, 0, 0, Make.NO, Make.NO);
        RunColumns x = Make.many(120);
        Due.query(x, "not all");
        Due.query(x, "d is 0");
        mean("no row in it", x, 0, 3, Make.NO, Make.NO);
        mean("no row in it", x, 1, 0, Make.NO, Make.NO);
    }

    private static void meanWrong() {
        T.sentence("MEAN; part likewise. NO.");
        T.due("without queries", Make.many(5).mean(0, 0, 0), Make.NO);
        RunColumns x = Make.rows(1, 2);
        Due.query(x, "all");
        mean("3 by 2", x, 0, 0, 3, 2);
        for (int w : Make.outside(0, 0)) {
            T.due("query " + w, x.mean(w, 0, 0), Make.NO);
        }
        for (int w : Make.outside(0, 3)) {
            T.due("column " + w, x.mean(0, w, 0), Make.NO);
            T.due("column " + w, x.mean(0, w, 1), Make.NO);
        }
        for (int w : Make.outside(0, 1)) {
            T.due("part " + w, x.mean(0, 0, w), Make.NO);
        }
    }
}
