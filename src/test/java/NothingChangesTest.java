import java.util.ArrayList;
import java.util.List;

/**
 * What is refused, and what is asked, changes nothing: each such call is made on an object of its own,
 * which must then tell all that an object tells on which the call was not made.
 */
final class NothingChangesTest {
    private static final Due T = new Due("NothingChangesTest");
    private static final int NONE = -1, BAD = -2, STATE = -3, FULL = -4, NOTHING = -11, CAST = -12, PLACE = -13, SIZE = -14;

    /** A call, which answers. */
    private interface Call {
        long on(RunColumns x);
    }

    /** How an object comes to be; each time alike. */
    private interface State {
        RunColumns make();
    }

    public static void main(String[] args) {
        refusedRows();
        refusedTexts();
        refusedQueries();
        refusedSeen();
        refusedPlans();
        refusedTapes();
        refusedShifts();
        refusedWhenFull();
        stateWithoutImage();
        faultChangesTheTextAlone();
        asked();
        T.end();
    }

    // ---- states

    /** Something of everything, with room left, and an image of other rows. */
    private static RunColumns some() {
        RunColumns x = Make.rows(9, 0);
        x.mark();
        x.see(1, true);
        x.image();
        x.see(-1, true);
        x.add(1, 2, 3, 4);
        x.add(1, 15, 7, 8);
        x.mark();
        x.add(15, 1, 0, 4);
        Due.query(x, "a is 1");
        Due.query(x, "not d below 5");
        x.see(0, false);
        x.see(2, true);
        x.plan(1, 2);
        x.plan(2, 0);
        x.plan(1, 0);
        x.book(0, 2);
        x.book(1, 9);
        for (int tape = 0; tape < 5; tape++) {
            x.tape(tape, tape, 3);
            x.item(tape, 0, 1);
            x.item(tape, 2, -1);
        }
        Due.feed(x, "a is 1");
        return x;
    }

    /** All that there can be of everything. */
    private static RunColumns full() {
        RunColumns x = Make.many(110);
        for (int i = 0; i < 10; i++) {
            x.mark();
            x.add(i, i, i, i);
        }
        for (int i = 0; i < 8; i++) {
            Due.query(x, i % 2 == 0 ? "all" : "c is " + i);
            x.book(i, 120);
        }
        for (int i = 0; i < 10; i++) {
            x.see(i, i == 5);
            x.plan(i % 3, i);
        }
        x.image();
        for (int i = 0; i < 100; i++) {
            x.feed(i % 2 == 0 ? '(' : ' ');
        }
        return x;
    }

    /** All that an object tells: what is asked, then what is there to go back to, read, or undo. */
    private static List<Long> tells(RunColumns x) {
        List<Long> told = new ArrayList<>();
        ask(x, told);
        told.add((long) x.query());
        told.add((long) Due.query(x, "all"));
        for (int mark = 10; mark >= 0; mark--) {
            told.add((long) x.back(mark));
        }
        told.add((long) x.undo());
        ask(x, told);
        told.add((long) x.back(0));
        return told;
    }

    private static void ask(RunColumns x, List<Long> told) {
        for (int what = 0; what <= 6; what++) {
            told.add((long) x.count(what));
        }
        int[] rows = {0, 2, 4, 5, 119};
        for (int column = 0; column < 4; column++) {
            for (int row : rows) {
                told.add((long) x.at(row, column));
            }
            for (int v = 0; v < 20; v += 3) {
                told.add((long) x.runs(column, v));
            }
            told.add((long) x.bounds(column, 0));
        }
        for (int query = 0; query < 3; query++) {
            for (int what = 0; what <= 2; what++) {
                told.add((long) x.of(query, what));
            }
            told.add((long) x.ends(query, 0));
        }
        told.add((long) x.looked());
        for (int tape = 0; tape < 6; tape++) {
            for (int i = 0; i < 4; i += 2) {
                told.add(x.read(tape, i));
            }
        }
    }

    private static void same(String call, State state, Call made, long want) {
        RunColumns x = state.make();
        T.due(call, made.on(x), want);
        T.due("nothing changed by " + call, tells(x).equals(tells(state.make())));
    }

    private static void leavesAll(String call, Call made, long want) {
        same(call, NothingChangesTest::some, made, want);
    }

    private static void leavesAllOfFull(String call, Call made, long want) {
        same(call, NothingChangesTest::full, made, want);
    }

    // ---- what is refused

    private static void refusedRows() {
        T.sentence("What is answered so changes nothing;");
        for (int w : Make.outside(0, 15)) {
            leavesAll("add(" + w + ", 0, 0, 0)", x -> x.add(w, 0, 0, 0), BAD);
            leavesAll("add(0, " + w + ", 0, 0)", x -> x.add(0, w, 0, 0), BAD);
            leavesAll("add(0, 0, " + w + ", 0)", x -> x.add(0, 0, w, 0), BAD);
            leavesAll("add(0, 0, 0, " + w + ")", x -> x.add(0, 0, 0, w), BAD);
        }
        for (int w : Make.outside(0, 4)) {
            leavesAll("at(" + w + ", 0)", x -> x.at(w, 0), NONE);
        }
        for (int w : Make.outside(0, 3)) {
            leavesAll("at(0, " + w + ")", x -> x.at(0, w), NONE);
            leavesAll("runs(" + w + ", 0)", x -> x.runs(w, 0), NONE);
            leavesAll("run(" + w + ", 0, 0)", x -> x.run(w, 0, 0), NONE);
        }
        for (int w : Make.outside(0, 1)) {
            leavesAll("back(" + w + ")", x -> x.back(w), NONE);
        }
        for (int w : Make.outside(0, 19)) {
            leavesAll("runs(0, " + w + ")", x -> x.runs(0, w), NONE);
            leavesAll("run(0, " + w + ", 0)", x -> x.run(0, w, 0), NONE);
        }
        leavesAll("run(0, 0, -1)", x -> x.run(0, 0, -1), NONE);
    }

    private static void refusedTexts() {
        for (int w : Make.outside(0, 127)) {
            leavesAll("feed(" + w + ")", x -> x.feed(w), BAD);
        }
    }

    private static void refusedQueries() {
        for (int w : Make.outside(0, 1)) {
            leavesAll("of(" + w + ", 0)", x -> x.of(w, 0), NONE);
            leavesAll("row(" + w + ", 0)", x -> x.row(w, 0), NONE);
            leavesAll("group(" + w + ", 0, 0)", x -> x.group(w, 0, 0), NONE);
            leavesAll("edge(" + w + ", 0, 0)", x -> x.edge(w, 0, 0), NONE);
            leavesAll("two(" + w + ", 0, 0)", x -> x.two(w, 0, 0), NONE);
            leavesAll("two(0, " + w + ", 0)", x -> x.two(0, w, 0), NONE);
            leavesAll("taken(" + w + ", 1)", x -> x.taken(w, 1), NOTHING);
        }
        leavesAll("of(0, 8)", x -> x.of(0, 8), NONE);
        leavesAll("row(0, -1)", x -> x.row(0, -1), NONE);
        leavesAll("group(0, 4, 0)", x -> x.group(0, 4, 0), NONE);
        leavesAll("group(0, 0, 16)", x -> x.group(0, 0, 16), NONE);
        leavesAll("edge(0, 4, 0)", x -> x.edge(0, 4, 0), NONE);
        leavesAll("edge(0, 0, 5)", x -> x.edge(0, 0, 5), NONE);
        leavesAll("two(0, 0, 5)", x -> x.two(0, 0, 5), NONE);
        leavesAll("taken(0, 7)", x -> x.taken(0, 7), BAD);
        leavesAll("taken(0, 0)", x -> x.taken(0, 0), CAST);
        leavesAll("count(7)", x -> x.count(7), BAD);
    }

    private static void refusedSeen() {
        int[] noRow = {5, 120, -2, Make.MIN, Make.MAX};
        for (int w : noRow) {
            leavesAll("see(" + w + ", true)", x -> x.see(w, true), NONE);
        }
        leavesAll("bounds(4, 0)", x -> x.bounds(4, 0), NONE);
        leavesAll("bounds(0, 2)", x -> x.bounds(0, 2), NONE);
        leavesAll("odds(2, 0)", x -> x.odds(2, 0), Make.NO);
        leavesAll("odds(0, 2)", x -> x.odds(0, 2), Make.NO);
        leavesAll("mean(2, 0, 0)", x -> x.mean(2, 0, 0), Make.NO);
        leavesAll("mean(0, 4, 0)", x -> x.mean(0, 4, 0), Make.NO);
        leavesAll("mean(0, 0, 2)", x -> x.mean(0, 0, 2), Make.NO);
    }

    private static void refusedPlans() {
        int[] noWhat = {-2, 3, Make.MIN, Make.MAX};
        for (int w : noWhat) {
            leavesAll("plan(" + w + ", 0)", x -> x.plan(w, 0), NONE);
        }
        leavesAll("plan(1, 5)", x -> x.plan(1, 5), NONE);
        leavesAll("plan(1, -1)", x -> x.plan(1, -1), NONE);
        leavesAll("plan(2, 2)", x -> x.plan(2, 2), NONE);
        leavesAll("plan(2, -1)", x -> x.plan(2, -1), NONE);
        leavesAll("ends(2, 0)", x -> x.ends(2, 0), NONE);
        leavesAll("ends(0, 2)", x -> x.ends(0, 2), NONE);
        leavesAll("book(2, 0)", x -> x.book(2, 0), NONE);
        leavesAll("book(-2, 0)", x -> x.book(-2, 0), NONE);
        leavesAll("book(0, 121)", x -> x.book(0, 121), BAD);
        leavesAll("book(0, -1)", x -> x.book(0, -1), BAD);
    }

    private static void refusedTapes() {
        leavesAll("judge(2, 4, 0)", x -> x.judge(2, 4, 0), NONE);
        leavesAll("judge(0, 6, 0)", x -> x.judge(0, 6, 0), NONE);
        leavesAll("judge(0, 3, 0)", x -> x.judge(0, 3, 0), CAST);
        for (int w : Make.outside(0, 5)) {
            leavesAll("tape(" + w + ", 0, 1)", x -> x.tape(w, 0, 1), NONE);
            leavesAll("tape(" + w + ", -1, 1)", x -> x.tape(w, -1, 1), NONE);
            leavesAll("item(" + w + ", 0, 9)", x -> x.item(w, 0, 9), NONE);
            leavesAll("read(" + w + ", 0)", x -> x.read(w, 0), Make.NO);
        }
        for (int tape = 0; tape < 5; tape++) {
            int t = tape;
            leavesAll("tape(" + t + ", -2, 1)", x -> x.tape(t, -2, 1), BAD);
            leavesAll("tape(" + t + ", 5, 1)", x -> x.tape(t, 5, 1), BAD);
            leavesAll("tape(" + t + ", 3, 61)", x -> x.tape(t, 3, 61), BAD);
            leavesAll("tape(" + t + ", 3, -1)", x -> x.tape(t, 3, -1), SIZE);
            leavesAll("item(" + t + ", 3, 9)", x -> x.item(t, 3, 9), PLACE);
            leavesAll("item(" + t + ", -1, 9)", x -> x.item(t, -1, 9), PLACE);
            leavesAll("read(" + t + ", 3)", x -> x.read(t, 3), Make.NO);
        }
        leavesAll("item(5, 0, 9)", x -> x.item(5, 0, 9), NOTHING);
    }

    private static void refusedShifts() {
        for (int w : Make.outside(0, 5)) {
            leavesAll("shift(" + w + ", 0, 0, 1, 1)", x -> x.shift(w, 0, 0, 1, 1), NONE);
            leavesAll("shift(0, 0, " + w + ", 1, 1)", x -> x.shift(0, 0, w, 1, 1), NONE);
        }
        leavesAll("shift(5, 0, 0, 1, 1)", x -> x.shift(5, 0, 0, 1, 1), NOTHING);
        leavesAll("shift(0, 0, 5, 1, 1)", x -> x.shift(0, 0, 5, 1, 1), NOTHING);
        leavesAll("shift(0, 0, 1, 1, 1)", x -> x.shift(0, 0, 1, 1, 1), CAST);
        leavesAll("shift(3, 0, 3, 1, 3)", x -> x.shift(3, 0, 3, 1, 3), PLACE);
        leavesAll("shift(3, 1, 3, 0, 3)", x -> x.shift(3, 1, 3, 0, 3), PLACE);
        leavesAll("shift(3, 0, 3, 1, -1)", x -> x.shift(3, 0, 3, 1, -1), PLACE);
        leavesAll("shift(3, -1, 3, 1, 1)", x -> x.shift(3, -1, 3, 1, 1), PLACE);
        leavesAll("shift(3, 0, 3, -1, 1)", x -> x.shift(3, 0, 3, -1, 1), PLACE);
    }

    private static void refusedWhenFull() {
        T.sentence("Answers: NONE (-1) no such number; BAD (-2) a number is not as told; STATE (-3) as told; FULL (-4); the first that a call's words name.");
        leavesAllOfFull("add", x -> x.add(0, 0, 0, 0), FULL);
        leavesAllOfFull("add: BAD first", x -> x.add(0, 0, 0, 16), BAD);
        leavesAllOfFull("mark", RunColumns::mark, FULL);
        leavesAllOfFull("feed", x -> x.feed('a'), FULL);
        leavesAllOfFull("feed: BAD first", x -> x.feed(128), BAD);
        leavesAllOfFull("query", RunColumns::query, FULL);
        leavesAllOfFull("see", x -> x.see(0, true), FULL);
        leavesAllOfFull("see: NONE first", x -> x.see(120, true), NONE);
        for (int what = 0; what <= 2; what++) {
            int w = what;
            leavesAllOfFull("plan(" + w + ", 0)", x -> x.plan(w, 0), FULL);
        }
        leavesAllOfFull("plan: NONE first", x -> x.plan(1, 120), NONE);
        leavesAllOfFull("plan: NONE first", x -> x.plan(2, 10), NONE);
        leavesAllOfFull("plan: NONE first", x -> x.plan(3, 0), NONE);
        leavesAllOfFull("book", x -> x.book(0, 0), FULL);
        leavesAllOfFull("book: BAD first", x -> x.book(0, 121), BAD);
        leavesAllOfFull("book: NONE first of all", x -> x.book(8, 121), NONE);
    }

    private static void stateWithoutImage() {
        State state = () -> {
            RunColumns x = Make.many(7);
            x.mark();
            Due.query(x, "c is 1");
            x.see(3, true);
            x.plan(0, 0);
            x.book(0, 1);
            Due.feed(x, "al");
            return x;
        };
        same("undo()", state, RunColumns::undo, STATE);
        same("undo() of a new one", RunColumns::new, RunColumns::undo, STATE);
    }

    private static void faultChangesTheTextAlone() {
        State without = () -> {
            RunColumns x = some();
            x.query();
            return x;
        };
        Call fault = x -> Due.query(x, "b is 1 and not (c in 1..2 or");
        same("a fault behind an empty text", without, fault, -10 - 28);
    }

    // ---- what is asked

    private static void asked() {
        T.sentence("2 All that follows is asked, and changes nothing.");
        leavesAll("at(2, 3)", x -> x.at(2, 3), 4);
        leavesAll("runs(0, 1)", x -> x.runs(0, 1), 3);
        leavesAll("run(0, 1, 1)", x -> x.run(0, 1, 1), -12);
        int[] of = {2, 3, 3, 2, 3, 1, 0, 1};
        for (int what = 0; what <= 7; what++) {
            int w = what;
            leavesAll("of(0, " + w + ")", x -> x.of(0, w), of[w]);
        }
        leavesAll("row(0, 1)", x -> x.row(0, 1), 3);
        leavesAll("group(0, 1, 15)", x -> x.group(0, 1, 15), 1);
        int[] edge = {2, 15, 2, 2, 2};
        int[] two = {1, 2, 1, 0, 0};
        for (int what = 0; what <= 4; what++) {
            int w = what;
            leavesAll("edge(0, 1, " + w + ")", x -> x.edge(0, 1, w), edge[w]);
            leavesAll("two(0, 1, " + w + ")", x -> x.two(0, 1, w), two[w]);
        }
        int[] bounds = {8, 2};
        int[] ends = {0, 1};
        long[] odds = {2, 5};
        long[] mean = {17, 2};
        for (int part = 0; part <= 1; part++) {
            int p = part;
            leavesAll("bounds(0, " + p + ")", x -> x.bounds(0, p), bounds[p]);
            leavesAll("ends(0, " + p + ")", x -> x.ends(0, p), ends[p]);
            leavesAll("odds(0, " + p + ")", x -> x.odds(0, p), odds[p]);
            leavesAll("mean(0, 1, " + p + ")", x -> x.mean(0, 1, p), mean[p]);
        }
        leavesAll("looked()", RunColumns::looked, 1);
        leavesAll("judge(0, 4, 0)", x -> x.judge(0, 4, 0), 0);
        leavesAll("judge(0, 5, 0)", x -> x.judge(0, 5, 0), 1000);
        leavesAll("judge(0, 4, -1)", x -> x.judge(0, 4, -1), 1000);
        leavesAll("taken(1, 4)", x -> x.taken(1, 4), 4);
        T.sentence("what is asked changes nothing.");
        int[] counts = {5, 2, 2, 2, 3, 2, 6};
        for (int what = 0; what <= 6; what++) {
            int w = what;
            leavesAll("count(" + w + ")", x -> x.count(w), counts[w]);
        }
        leavesAll("read(1, 2)", x -> x.read(1, 2), -1);
        leavesAll("read(4, 2)", x -> x.read(4, 2), 1);
    }
}
