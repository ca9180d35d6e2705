/** Promises 19 to 22: plan, ends, book, looked. */
final class PlansTest {
    private static final Due T = new Due("PlansTest");
    private static final int MIN = Integer.MIN_VALUE, MAX = Integer.MAX_VALUE;

    public static void main(String[] args) {
        plan();
        ends();
        endsOfWhatIsThere();
        endsWithinRoom();
        endsWrong();
        book();
        looked();
        T.end();
    }

    /** Four rows, a 1 2 1 3, mark 0 at 2, mark 1 at 4; query 0 is all, 1 is a is 1. */
    private static RunColumns four() {
        RunColumns x = new RunColumns();
        x.add(1, 0, 0, 0);
        x.add(2, 0, 0, 0);
        x.mark();
        x.add(1, 0, 0, 0);
        x.add(3, 0, 0, 0);
        x.mark();
        Due.query(x, "all");
        Due.query(x, "a is 1");
        return x;
    }

    private static void plan() {
        RunColumns x = four();
        int[] noWhat = {-2, 3, MIN, MAX};
        for (int w : noWhat) {
            T.due("plan(" + w + ", 0)", x.plan(w, 0), -1);
        }
        int[] noRow = {-1, 4, MIN, MAX};
        for (int w : noRow) {
            T.due("plan(1, " + w + ")", x.plan(1, w), -1);
        }
        int[] noMark = {-1, 2, MIN, MAX};
        for (int w : noMark) {
            T.due("plan(2, " + w + ")", x.plan(2, w), -1);
        }
        T.due("plan(0, MIN): n does not matter", x.plan(0, MIN), 1);
        T.due("plan(0, MAX)", x.plan(0, MAX), 2);
        T.due("plan(1, 3)", x.plan(1, 3), 3);
        T.due("plan(2, 1)", x.plan(2, 1), 4);
        for (int i = 5; i <= 10; i++) {
            T.due("plan " + i, x.plan(1, 0), i);
        }
        T.due("an eleventh", x.plan(0, 0), -4);
        T.due("NONE is named ahead of FULL", x.plan(1, 4), -1);
        T.due("of the plan", x.count(4), 10);
        T.due("empty then", x.plan(-1, MAX), 0);
        T.due("of the plan then", x.count(4), 0);
        T.due("one comes", x.plan(0, 0), 1);
    }

    private static void ends() {
        RunColumns x = four();
        ends(x, "no plan", 4, 1, 2, 4);
        x.plan(0, 0);
        ends(x, "the last goes", 3, 1, 2, 3);
        x.plan(1, 0);
        ends(x, "one like row 0 comes", 4, 1, 3, 3);
        x.plan(1, 1);
        ends(x, "one like row 1 comes", 5, 1, 3, 4);
        x.plan(2, 0);
        ends(x, "back to 2", 2, 1, 1, 2);
        x.plan(2, 1);
        ends(x, "back to 4: there are but 2", 2, 1, 1, 2);
        x.plan(0, 0);
        x.plan(0, 0);
        ends(x, "no rows", 0, 0, 0, 0);
        x.plan(0, 0);
        ends(x, "none is there to go", 0, 0, 0, 0);
        x.plan(1, 0);
        ends(x, "row 0 is not there then", 0, 0, 0, 0);
        T.due("nothing has gone", x.count(0), 4);
        T.due("marks stay", x.count(1), 2);
        T.due("rows stay", x.at(3, 0), 3);
        T.due("results stay", x.of(1, 0), 2);
    }

    private static void ends(RunColumns x, String why, int all, int allRuns, int ones, int oneRuns) {
        T.due(why + ": how many", x.ends(0, 0), all);
        T.due(why + ": runs", x.ends(0, 1), allRuns);
        T.due(why + ": how many with 1", x.ends(1, 0), ones);
        T.due(why + ": runs with 1", x.ends(1, 1), oneRuns);
    }

    private static void endsOfWhatIsThere() {
        RunColumns x = four();
        x.plan(2, 1);
        x.plan(1, 3);
        x.plan(1, 0);
        ends(x, "two come", 6, 1, 3, 5);
        x.back(0);
        // Mark 1 and row 3 are no more; row 0 is.
        ends(x, "behind back(0)", 3, 1, 2, 3);
        x.add(1, 0, 0, 0);
        x.add(1, 0, 0, 0);
        ends(x, "row 3 is there again", 6, 1, 5, 3);
        x.mark();
        x.plan(-1, 0);
        x.plan(1, 0);
        x.plan(1, 4);
        // ROW 4 is there when it comes to it, though not now.
        T.due("plan(1, 4) is none now", x.count(4), 1);
        x.plan(2, 1);
        ends(x, "mark 1 tells of 4 rows", 4, 1, 3, 3);
    }

    private static void endsWithinRoom() {
        RunColumns x = new RunColumns();
        Due.query(x, "all");
        Due.query(x, "b is 5");
        x.mark();
        for (int i = 0; i < 117; i++) {
            x.add(i % 16, 5, 0, 0);
        }
        x.add(0, 6, 0, 0);
        for (int i = 0; i < 10; i++) {
            x.plan(1, i == 9 ? 117 : 0);
        }
        T.due("118 rows", x.count(0), 118);
        T.due("120 there is room for", x.ends(0, 0), 120);
        T.due("of these have 5", x.ends(1, 0), 119);
        T.due("in runs", x.ends(1, 1), 3);
        x.plan(-1, 0);
        x.plan(2, 0);
        T.due("all go", x.ends(0, 0), 0);
    }

    private static void endsWrong() {
        RunColumns x = four();
        int[] noQuery = {-1, 2, MIN, MAX};
        for (int w : noQuery) {
            T.due("ends(" + w + ", 0)", x.ends(w, 0), -1);
        }
        int[] noWhat = {-1, 2, MIN, MAX};
        for (int w : noWhat) {
            T.due("ends(0, " + w + ")", x.ends(0, w), -1);
        }
    }

    private static void book() {
        RunColumns x = four();
        int[] noQuery = {-2, 2, 8, MIN, MAX};
        for (int w : noQuery) {
            T.due("book(" + w + ", 0)", x.book(w, 0), -1);
            T.due("NONE is named ahead of BAD", x.book(w, -1), -1);
        }
        int[] bad = {-1, 121, MIN, MAX};
        for (int w : bad) {
            T.due("book(0, " + w + ")", x.book(0, w), -2);
        }
        T.due("book(0, 0)", x.book(0, 0), 1);
        T.due("book(1, 120)", x.book(1, 120), 2);
        for (int i = 3; i <= 8; i++) {
            T.due("book " + i, x.book(0, i), i);
        }
        T.due("a ninth", x.book(0, 4), -4);
        T.due("BAD is named ahead of FULL", x.book(0, 121), -2);
        T.due("of the book", x.count(5), 8);
        T.due("empty then", x.book(-1, -7), 0);
        T.due("of the book then", x.count(5), 0);
    }

    private static void looked() {
        RunColumns x = four();
        T.due("no book", x.looked(), -5);
        x.book(0, 4);
        x.book(1, 2);
        T.due("all as told", x.looked(), -5);
        x.book(0, 4);
        x.book(1, 3);
        T.due("the fourth is otherwise", x.looked(), 3);
        x.add(2, 0, 0, 0);
        T.due("now the first is", x.looked(), 0);
        x.book(-1, 0);
        T.due("empty", x.looked(), -5);
        x.book(1, 2);
        x.book(0, 4);
        T.due("the second of two", x.looked(), 1);
        x.back(1);
        T.due("none of two", x.looked(), -5);
    }
}
