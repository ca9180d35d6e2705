/** Promises 1 to 7: a new object, add, at, mark, back, runs, run. */
final class RowsTest {
    private static final Due T = new Due("RowsTest");
    private static final int MIN = Integer.MIN_VALUE, MAX = Integer.MAX_VALUE;

    public static void main(String[] args) {
        newObject();
        add();
        at();
        mark();
        back();
        runs();
        run();
        runsAcrossWords();
        T.end();
    }

    private static void newObject() {
        RunColumns x = new RunColumns();
        for (int what = 0; what <= 6; what++) {
            T.due("new count(" + what + ")", x.count(what), 0);
        }
        T.due("new at", x.at(0, 0), -1);
        T.due("new of", x.of(0, 0), -1);
        T.due("new undo", x.undo(), -3);
        T.due("new runs", x.runs(0, 0), 0);
        T.due("new read", x.read(0, 0), RunColumns.NO);
        T.due("new item: the tape holds nothing", x.item(0, 0, 1), -11);
    }

    private static void add() {
        RunColumns x = new RunColumns();
        T.due("add", x.add(0, 15, 7, 8), 0);
        T.due("add", x.add(15, 0, 8, 7), 1);
        int[] wrong = {-1, 16, MIN, MAX};
        for (int w : wrong) {
            T.due("add a " + w, x.add(w, 0, 0, 0), -2);
            T.due("add b " + w, x.add(0, w, 0, 0), -2);
            T.due("add c " + w, x.add(0, 0, w, 0), -2);
            T.due("add d " + w, x.add(0, 0, 0, w), -2);
        }
        T.due("BAD changes nothing", x.count(0), 2);
        for (int i = 2; i < 120; i++) {
            T.due("add " + i, x.add(i % 16, i / 16, i % 7, i % 5), i);
        }
        T.due("add 120", x.add(0, 0, 0, 0), -4);
        T.due("BAD is named ahead of FULL", x.add(0, 0, 0, 16), -2);
        T.due("FULL changes nothing", x.count(0), 120);
        T.due("the last", x.at(119, 0), 119 % 16);
    }

    private static void at() {
        RunColumns x = new RunColumns();
        x.add(0, 1, 2, 3);
        x.add(15, 14, 13, 12);
        for (int column = 0; column < 4; column++) {
            T.due("at(0, " + column + ")", x.at(0, column), column);
            T.due("at(1, " + column + ")", x.at(1, column), 15 - column);
        }
        int[][] wrong = {{2, 0}, {-1, 0}, {MIN, 0}, {MAX, 0}, {0, 4}, {0, -1}, {0, MIN}, {0, MAX}, {120, 0}};
        for (int[] w : wrong) {
            T.due("at(" + w[0] + ", " + w[1] + ")", x.at(w[0], w[1]), -1);
        }
    }

    private static void mark() {
        RunColumns x = new RunColumns();
        for (int i = 0; i < 10; i++) {
            T.due("mark " + i, x.mark(), i);
        }
        T.due("an eleventh mark", x.mark(), -4);
        T.due("marks", x.count(1), 10);
    }

    private static void back() {
        RunColumns x = new RunColumns();
        x.mark();
        x.add(1, 1, 1, 1);
        x.add(2, 2, 2, 2);
        x.mark();
        x.add(3, 3, 3, 3);
        x.mark();
        x.mark();
        T.due("back to one that is none", x.back(4), -1);
        T.due("back(-1)", x.back(-1), -1);
        T.due("back(MIN)", x.back(MIN), -1);
        T.due("back(MAX)", x.back(MAX), -1);
        T.due("nothing changed", x.count(1), 4);
        T.due("back(1)", x.back(1), 1);
        T.due("rows then", x.count(0), 2);
        T.due("marks then: that one stays", x.count(1), 2);
        T.due("the row is no more", x.at(2, 0), -1);
        T.due("a mark behind is no more", x.back(2), -1);
        T.due("back(1) again", x.back(1), 0);
        T.due("a row comes where one was", x.add(4, 4, 4, 4), 2);
        T.due("its value", x.at(2, 3), 4);
        T.due("no bit of the old one stays", x.runs(0, 3), 1);
        T.due("nor of its slices", x.run(0, 16, 1), 2);
        x.add(0, 0, 0, 0);
        x.back(1);
        x.add(9, 9, 9, 9);
        T.due("a 0 that is no more is none", x.run(0, 0, 0), 3);
        T.due("back(0)", x.back(0), 3);
        T.due("no rows", x.count(0), 0);
        T.due("mark 0 stays", x.count(1), 1);
    }

    private static void runs() {
        RunColumns x = new RunColumns();
        T.due("without rows", x.runs(3, 19), 0);
        int[] values = {5, 5, 4, 2, 5, 5};
        for (int v : values) {
            x.add(v, 0, 0, 15 - v);
        }
        T.due("runs of a is 5", x.runs(0, 5), 3);
        T.due("runs of a is 4", x.runs(0, 4), 3);
        T.due("runs of a is 9", x.runs(0, 9), 1);
        T.due("runs of a is 15", x.runs(0, 15), 1);
        T.due("runs of b is 0", x.runs(1, 0), 1);
        T.due("runs of slice 0", x.runs(0, 16), 3);
        T.due("runs of slice 1", x.runs(0, 17), 3);
        T.due("runs of slice 2", x.runs(0, 18), 3);
        T.due("runs of slice 3", x.runs(0, 19), 1);
        T.due("runs of d is 10", x.runs(3, 10), 3);
        T.due("runs of d's slice 3", x.runs(3, 19), 1);
        int[][] wrong = {{4, 0}, {-1, 0}, {0, 20}, {0, -1}, {MIN, 0}, {MAX, 0}, {0, MIN}, {0, MAX}};
        for (int[] w : wrong) {
            T.due("runs(" + w[0] + ", " + w[1] + ")", x.runs(w[0], w[1]), -1);
            T.due("run(" + w[0] + ", " + w[1] + ", 0)", x.run(w[0], w[1], 0), -1);
        }
    }

    private static void run() {
        RunColumns x = new RunColumns();
        T.due("without rows", x.run(0, 0, 0), -5);
        int[] values = {5, 5, 5, 4, 5};
        for (int v : values) {
            x.add(v, 0, 0, 0);
        }
        T.due("run 0: three ones", x.run(0, 5, 0), -13);
        T.due("run 1: a zero", x.run(0, 5, 1), 1);
        T.due("run 2: a one", x.run(0, 5, 2), -11);
        T.due("run 3: none", x.run(0, 5, 3), -5);
        T.due("run MAX: none", x.run(0, 5, MAX), -5);
        T.due("k below 0", x.run(0, 5, -1), -1);
        T.due("k MIN", x.run(0, 5, MIN), -1);
        T.due("all zeros", x.run(0, 9, 0), 5);
        T.due("slice 2: all ones", x.run(0, 18, 0), -15);
        T.due("slice 0: as 5", x.run(0, 16, 0), -13);
        T.due("slice 3: zeros", x.run(0, 19, 0), 5);
        T.due("slice 3: no more", x.run(0, 19, 1), -5);
    }

    private static void runsAcrossWords() {
        RunColumns x = new RunColumns();
        for (int i = 0; i < 120; i++) {
            x.add(i < 64 ? 1 : 2, i < 60 || i >= 70 ? 0 : 8, i % 2, 3);
        }
        T.due("a changes at 64", x.runs(0, 1), 2);
        T.due("a run 0", x.run(0, 1, 0), -74);
        T.due("a run 1", x.run(0, 1, 1), 56);
        T.due("b over 64", x.runs(1, 8), 3);
        T.due("b run 0", x.run(1, 19, 0), 60);
        T.due("b run 1", x.run(1, 19, 1), -20);
        T.due("b run 2", x.run(1, 19, 2), 50);
        T.due("c: every row another", x.runs(2, 16), 120);
        T.due("c run 119", x.run(2, 1, 119), -11);
        T.due("c run 120", x.run(2, 1, 120), -5);
        T.due("d: all rows", x.run(3, 3, 0), -130);
        T.due("d: none", x.run(3, 4, 0), 120);
    }
}
