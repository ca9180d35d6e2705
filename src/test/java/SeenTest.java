/** Promises 15 to 18: see, bounds, odds, mean. */
final class SeenTest {
    private static final Due T = new Due("SeenTest");
    private static final int MIN = Integer.MIN_VALUE, MAX = Integer.MAX_VALUE;
    private static final long NO = Long.MIN_VALUE;

    public static void main(String[] args) {
        see();
        bounds();
        rowsThatAreNoMore();
        odds();
        mean();
        T.end();
    }

    private static RunColumns four() {
        RunColumns x = new RunColumns();
        x.add(0, 3, 15, 2);
        x.add(5, 3, 15, 4);
        x.add(9, 3, 0, 8);
        x.add(15, 4, 0, 2);
        return x;
    }

    private static void see() {
        RunColumns x = four();
        int[] wrong = {4, -2, 120, MIN, MAX};
        for (int w : wrong) {
            T.due("see(" + w + ", true)", x.see(w, true), -1);
        }
        for (int i = 1; i <= 6; i++) {
            T.due("see " + i, x.see(0, true), i);
        }
        T.due("a seventh", x.see(0, false), -4);
        T.due("NONE is named ahead of FULL", x.see(4, false), -1);
        T.due("seen", x.count(3), 6);
        T.due("none then", x.see(-1, true), 0);
        T.due("seen then", x.count(3), 0);
        T.due("none again", x.see(-1, false), 0);
        T.due("one comes", x.see(3, false), 1);
    }

    private static void bounds() {
        RunColumns x = four();
        bounds(x, "none seen", 0, 16, 0);
        x.see(1, true);
        bounds(x, "5 is in: from 6 on", 0, 10, 6);
        bounds(x, "3 is in: from 4 on", 1, 12, 4);
        bounds(x, "15 is in: none", 2, 0, -5);
        x.see(2, false);
        bounds(x, "9 is not: to 9", 0, 4, 6);
        bounds(x, "3 is and is not", 1, 0, -5);
        bounds(x, "4 is, 8 is not", 3, 4, 5);
        x.see(3, false);
        bounds(x, "15 is not", 0, 4, 6);
        bounds(x, "2 is not, but 4 is", 3, 0, -5);
        x.see(-1, false);
        x.see(0, false);
        bounds(x, "0 is not: 0 alone", 0, 1, 0);
        bounds(x, "15 is not: all", 2, 16, 0);
        x.see(0, true);
        bounds(x, "told both ways", 0, 0, -5);
        int[] wrong = {-1, 4, MIN, MAX};
        for (int w : wrong) {
            T.due("bounds(" + w + ", 0)", x.bounds(w, 0), -1);
        }
        int[] noWhat = {-1, 2, MIN, MAX};
        for (int w : noWhat) {
            T.due("bounds(0, " + w + ")", x.bounds(0, w), -1);
        }
    }

    private static void rowsThatAreNoMore() {
        RunColumns x = four();
        x.mark();
        x.add(7, 7, 7, 7);
        x.see(4, false);
        bounds(x, "7 is not", 0, 8, 0);
        x.back(0);
        T.due("what is seen stays", x.count(3), 1);
        bounds(x, "a row that is no more is not so", 0, 0, -5);
        x.add(2, 2, 2, 2);
        bounds(x, "there is a row 4 again", 0, 3, 0);
    }

    private static void bounds(RunColumns x, String why, int column, int howMany, int least) {
        T.due(why + ": bounds(" + column + ", 0)", x.bounds(column, 0), howMany);
        T.due(why + ": bounds(" + column + ", 1)", x.bounds(column, 1), least);
    }

    private static void odds() {
        RunColumns x = new RunColumns();
        Due.query(x, "a below 6");
        Due.query(x, "not all");
        Due.query(x, "all");
        Due.query(x, "a is 0");
        T.due("no rows: above", x.odds(0, 0), NO);
        T.due("no rows: below", x.odds(2, 1), NO);
        x.add(0, 0, 0, 0);
        x.add(5, 0, 0, 0);
        x.add(9, 0, 0, 0);
        x.add(9, 0, 0, 0);
        fraction("half", x.odds(0, 0), x.odds(0, 1), 1, 2);
        fraction("none", x.odds(1, 0), x.odds(1, 1), 0, 1);
        fraction("all", x.odds(2, 0), x.odds(2, 1), 1, 1);
        fraction("a quarter", x.odds(3, 0), x.odds(3, 1), 1, 4);
        x.add(0, 0, 0, 0);
        x.add(15, 0, 0, 0);
        x.add(15, 0, 0, 0);
        fraction("3 of 7", x.odds(0, 0), x.odds(0, 1), 3, 7);
        int[] wrong = {-1, 4, MIN, MAX};
        for (int w : wrong) {
            T.due("odds(" + w + ", 0)", x.odds(w, 0), NO);
        }
        int[] noPart = {-1, 2, MIN, MAX};
        for (int w : noPart) {
            T.due("odds(0, " + w + ")", x.odds(0, w), NO);
            T.due("mean(0, 0, " + w + ")", x.mean(0, 0, w), NO);
        }
    }

    private static void mean() {
        RunColumns x = four();
        Due.query(x, "all");
        Due.query(x, "c is 0");
        Due.query(x, "c is 1");
        fraction("29 by 4", x.mean(0, 0, 0), x.mean(0, 0, 1), 29, 4);
        fraction("13 by 4", x.mean(0, 1, 0), x.mean(0, 1, 1), 13, 4);
        fraction("30 by 4", x.mean(0, 2, 0), x.mean(0, 2, 1), 15, 2);
        fraction("16 by 4", x.mean(0, 3, 0), x.mean(0, 3, 1), 4, 1);
        fraction("24 by 2", x.mean(1, 0, 0), x.mean(1, 0, 1), 12, 1);
        fraction("0 by 2", x.mean(1, 2, 0), x.mean(1, 2, 1), 0, 1);
        T.due("there are none: above", x.mean(2, 0, 0), NO);
        T.due("there are none: below", x.mean(2, 0, 1), NO);
        int[] wrong = {-1, 4, MIN, MAX};
        for (int w : wrong) {
            T.due("mean(" + w + ", 0, 0)", x.mean(w, 0, 0), NO);
            T.due("mean(0, " + w + ", 0)", x.mean(0, w, 0), NO);
        }
        T.due("mean(3, 0, 0)", x.mean(3, 0, 0), NO);
    }

    private static void fraction(String why, long above, long below, long wantAbove, long wantBelow) {
        T.due(why + ": above", above, wantAbove);
        T.due(why + ": below", below, wantBelow);
    }
}
