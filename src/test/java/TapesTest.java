/** Promises 23 to 31: judge, image, undo, taken, count, tape, item, read, shift. */
final class TapesTest {
    private static final Due T = new Due("TapesTest");
    private static final int MIN = Integer.MIN_VALUE, MAX = Integer.MAX_VALUE;
    private static final long NO = Long.MIN_VALUE;

    public static void main(String[] args) {
        judge();
        judgeWithoutRows();
        judgeWrong();
        image();
        imageOfMarks();
        imageOfAll();
        taken();
        count();
        tape();
        items();
        itemsWrong();
        shift();
        shiftWrong();
        T.end();
    }

    private static RunColumns three() {
        RunColumns x = new RunColumns();
        x.add(1, 0, 0, 0);
        x.add(0, 0, 0, 0);
        x.add(1, 0, 0, 0);
        Due.query(x, "a is 1");
        return x;
    }

    private static void judge() {
        RunColumns x = three();
        T.due("the tape holds nothing", x.judge(0, 0, 0), 1000);
        x.tape(0, 4, 0);
        T.due("a row of none", x.judge(0, 0, 0), 1000);
        x.tape(0, 4, 5);
        T.due("row 0 is otherwise", x.judge(0, 0, 0), 0);
        x.item(0, 0, 1);
        T.due("row 2 is otherwise", x.judge(0, 0, 0), 2);
        x.item(0, 2, 7);
        T.due("as told", x.judge(0, 0, 0), -5);
        T.due("from 2 on: as told", x.judge(0, 0, 1), 0);
        x.item(0, 4, 1);
        T.due("from place 2 on", x.judge(0, 0, 2), -5);
        T.due("from 4 on the row ends", x.judge(0, 0, 4), 1001);
        T.due("from 3 on row 0 is otherwise", x.judge(0, 0, 3), 0);
        T.due("from 5 on", x.judge(0, 0, 5), 1000);
        T.due("from MAX on", x.judge(0, 0, MAX), 1000);
        T.due("from -1 on", x.judge(0, 0, -1), 1000);
        T.due("from MIN on", x.judge(0, 0, MIN), 1000);
        x.tape(1, 4, 2);
        x.item(1, 0, -1);
        T.due("it ends behind two", x.judge(0, 1, 0), 1002);
        x.item(1, 1, 1);
        T.due("what is otherwise comes ahead of the end", x.judge(0, 1, 0), 1);
    }

    private static void judgeWithoutRows() {
        RunColumns x = new RunColumns();
        Due.query(x, "all");
        T.due("holds nothing", x.judge(0, 0, 0), -5);
        T.due("holds nothing, from -1", x.judge(0, 5, -1), -5);
        T.due("from MAX", x.judge(0, 0, MAX), -5);
        x.tape(0, 4, 3);
        T.due("from 2", x.judge(0, 0, 2), -5);
        x.tape(0, 3, 3);
        T.due("CAST all the same", x.judge(0, 0, 0), -12);
    }

    private static void judgeWrong() {
        RunColumns x = three();
        x.tape(0, 4, 3);
        int[] noQuery = {-1, 1, 8, MIN, MAX};
        for (int w : noQuery) {
            T.due("judge(" + w + ", 0, 0)", x.judge(w, 0, 0), -1);
        }
        int[] noTape = {-1, 6, MIN, MAX};
        for (int w : noTape) {
            T.due("judge(0, " + w + ", 0)", x.judge(0, w, 0), -1);
        }
        for (int sort = 0; sort < 4; sort++) {
            x.tape(1, sort, 3);
            T.due("judge by sort " + sort, x.judge(0, 1, 0), -12);
            T.due("judge by sort " + sort + " from -1", x.judge(0, 1, -1), -12);
            T.due("NONE is named ahead of CAST", x.judge(1, 1, 0), -1);
        }
    }

    private static void image() {
        RunColumns x = new RunColumns();
        T.due("there is none", x.undo(), -3);
        T.due("image()", x.image(), 0);
        x.add(1, 1, 1, 1);
        T.due("undo()", x.undo(), 0);
        T.due("no rows", x.count(0), 0);
        x.add(2, 2, 2, 2);
        x.add(3, 3, 3, 3);
        T.due("an image anew", x.image(), 2);
        x.add(4, 4, 4, 4);
        T.due("undo()", x.undo(), 2);
        x.add(5, 5, 5, 5);
        T.due("undo() again", x.undo(), 2);
        T.due("the rows are as then", x.at(1, 0), 3);
        T.due("and no more", x.at(2, 0), -1);
        x.add(0, 0, 0, 0);
        x.undo();
        x.add(1, 1, 1, 1);
        T.due("no bit of a 0 stays", x.run(0, 0, 0), 3);
        x.undo();
        T.due("nor their bits", x.runs(0, 5), 1);
    }

    private static void imageOfMarks() {
        RunColumns x = three();
        x.mark();
        x.add(1, 1, 1, 1);
        x.mark();
        x.image();
        x.back(0);
        x.mark();
        T.due("undo()", x.undo(), 4);
        T.due("marks", x.count(1), 2);
        T.due("mark 1 tells on what it did", x.back(1), 0);
        T.due("and mark 0", x.back(0), 1);
    }

    private static void imageOfAll() {
        RunColumns x = three();
        x.mark();
        x.see(0, false);
        x.plan(0, 0);
        x.book(0, 1);
        Due.feed(x, "ab");
        x.tape(2, 3, 1);
        T.due("image()", x.image(), 3);
        x.see(-1, false);
        x.see(1, true);
        x.see(1, true);
        x.plan(-1, 0);
        x.plan(1, 1);
        x.plan(1, 1);
        x.plan(1, 1);
        x.book(-1, 0);
        x.book(0, 3);
        x.book(0, 3);
        x.back(0);
        x.add(1, 9, 9, 9);
        x.mark();
        x.item(2, 0, 77);
        x.query();
        Due.query(x, "all");
        Due.feed(x, "xyz");
        T.due("undo()", x.undo(), 3);
        int[] wants = {3, 1, 2, 1, 1, 1, 3};
        for (int what = 0; what <= 6; what++) {
            T.due("count(" + what + ")", x.count(what), wants[what]);
        }
        T.due("seen is as then", x.bounds(0, 0), 2);
        T.due("and the plan", x.ends(0, 0), 1);
        T.due("and the book", x.looked(), 0);
        T.due("and the marks", x.back(0), 0);
        T.due("queries stay", x.of(1, 0), 3);
        T.due("tapes stay", x.read(2, 0), 77);
    }

    private static void taken() {
        RunColumns x = three();
        T.due("it is one of sort is", x.taken(0, 1), 1);
        T.due("it is none of sort all", x.taken(0, 0), -12);
        T.due("no such query", x.taken(1, 1), -11);
        T.due("no such sort", x.taken(0, 7), -2);
        T.due("neither: BAD is named first", x.taken(1, -1), -2);
        T.due("MIN, MAX", x.taken(MAX, MIN), -2);
    }

    private static void count() {
        RunColumns x = three();
        x.mark();
        x.mark();
        x.see(0, true);
        x.see(0, true);
        x.see(0, true);
        x.see(0, true);
        for (int i = 0; i < 5; i++) {
            x.plan(0, 0);
        }
        for (int i = 0; i < 6; i++) {
            x.book(0, 0);
        }
        Due.feed(x, "1234567");
        int[] wants = {3, 2, 1, 4, 5, 6, 7};
        for (int what = 0; what <= 6; what++) {
            T.due("count(" + what + ")", x.count(what), wants[what]);
        }
        int[] wrong = {-1, 7, MIN, MAX};
        for (int w : wrong) {
            T.due("count(" + w + ")", x.count(w), -2);
        }
    }

    private static void tape() {
        RunColumns x = new RunColumns();
        for (int sort = 0; sort <= 4; sort++) {
            T.due("tape of sort " + sort, x.tape(0, sort, 60), 1);
            T.due("its last item", x.read(0, 59), 0);
            T.due("no more", x.read(0, 60), NO);
            x.item(0, 59, 1);
        }
        T.due("all 0 anew", x.tape(0, 4, 60), 1);
        T.due("it is", x.read(0, 59), 0);
        T.due("a row of none", x.tape(0, 4, 0), 1);
        T.due("it has no place 0", x.item(0, 0, 1), -13);
        T.due("holds nothing", x.tape(0, -1, MIN), 1);
        T.due("nothing is there", x.item(0, 0, 1), -11);
        int[] noTape = {-1, 6, MIN, MAX};
        for (int w : noTape) {
            T.due("tape(" + w + ", 0, 1)", x.tape(w, 0, 1), -1);
            T.due("NONE is named ahead of BAD", x.tape(w, 9, 1), -1);
        }
        x.tape(1, 3, 2);
        x.item(1, 1, 5);
        int[] noSort = {-2, 5, MIN, MAX};
        for (int w : noSort) {
            T.due("tape(1, " + w + ", 1)", x.tape(1, w, 1), -2);
            T.due("BAD is named ahead of SIZE", x.tape(1, w, -1), -2);
        }
        T.due("61", x.tape(1, 0, 61), -2);
        T.due("MAX", x.tape(1, 0, MAX), -2);
        T.due("-1", x.tape(1, 0, -1), -14);
        T.due("MIN", x.tape(1, 0, MIN), -14);
        T.due("nothing changed", x.read(1, 1), 5);
        T.due("tape 5", x.tape(5, 0, 1), 1);
    }

    private static void items() {
        RunColumns x = new RunColumns();
        long[] values = {0, 1, -1, 127, 128, 200, 255, 256, 32767, 32768, 70000, 1L << 31, 1L << 32, Long.MIN_VALUE + 1, Long.MAX_VALUE};
        for (int sort = 0; sort <= 4; sort++) {
            x.tape(sort, sort, 2);
            for (long v : values) {
                T.due("item(" + sort + ", 1, " + v + ")", x.item(sort, 1, v), 1);
                T.due("read of " + v + " by sort " + sort, x.read(sort, 1), held(sort, v));
                T.due("the other item", x.read(sort, 0), 0);
            }
        }
    }

    private static long held(int sort, long v) {
        return sort == 0 ? (byte) v : sort == 1 ? (short) v : sort == 2 ? (int) v : sort == 3 ? v : v == 0 ? 0 : 1;
    }

    private static void itemsWrong() {
        RunColumns x = new RunColumns();
        x.tape(0, 3, 2);
        int[] noTape = {-1, 6, MIN, MAX};
        for (int w : noTape) {
            T.due("item(" + w + ", 0, 1)", x.item(w, 0, 1), -1);
            T.due("read(" + w + ", 0)", x.read(w, 0), NO);
        }
        int[] noPlace = {-1, 2, 60, MIN, MAX};
        for (int w : noPlace) {
            T.due("item(0, " + w + ", 1)", x.item(0, w, 1), -13);
            T.due("read(0, " + w + ")", x.read(0, w), NO);
            T.due("NOTHING is named ahead of PLACE", x.item(1, w, 1), -11);
            T.due("read(1, " + w + ")", x.read(1, w), NO);
        }
    }

    private static void shift() {
        RunColumns x = new RunColumns();
        x.tape(0, 2, 5);
        x.tape(1, 2, 3);
        for (int i = 0; i < 5; i++) {
            x.item(0, i, i + 1);
        }
        T.due("to another one", x.shift(0, 3, 1, 1, 2), 2);
        row(x, 1, 0, 4, 5);
        row(x, 0, 1, 2, 3, 4, 5);
        T.due("up in the same", x.shift(0, 0, 0, 1, 4), 4);
        row(x, 0, 1, 1, 2, 3, 4);
        T.due("down in the same", x.shift(0, 2, 0, 0, 3), 3);
        row(x, 0, 2, 3, 4, 3, 4);
        T.due("none, at the ends", x.shift(0, 5, 1, 3, 0), 0);
        T.due("all of it", x.shift(1, 0, 0, 2, 3), 3);
        row(x, 0, 2, 3, 0, 4, 5);
        for (int sort = 0; sort <= 4; sort++) {
            x.tape(2, sort, 2);
            x.tape(3, sort, 2);
            x.item(2, 0, 1);
            T.due("of sort " + sort, x.shift(2, 0, 3, 1, 1), 1);
            row(x, 3, 0, 1);
        }
    }

    private static void row(RunColumns x, int tape, long... wants) {
        for (int i = 0; i < wants.length; i++) {
            T.due("read(" + tape + ", " + i + ")", x.read(tape, i), wants[i]);
        }
        T.due("its end", x.read(tape, wants.length), NO);
    }

    private static void shiftWrong() {
        RunColumns x = new RunColumns();
        x.tape(0, 0, 4);
        x.tape(1, 0, 2);
        x.tape(2, 1, 4);
        x.item(0, 0, 9);
        int[] noTape = {-1, 6, MIN, MAX};
        for (int w : noTape) {
            T.due("shift from " + w, x.shift(w, 0, 0, 0, 1), -1);
            T.due("shift to " + w, x.shift(0, 0, w, 0, 1), -1);
            T.due("NONE is named ahead of NOTHING", x.shift(3, 0, w, 0, 1), -1);
        }
        T.due("nothing to take", x.shift(3, 0, 0, 0, 1), -11);
        T.due("nothing to put it", x.shift(0, 0, 3, 0, 1), -11);
        T.due("NOTHING is named ahead of PLACE", x.shift(0, 9, 3, 0, 1), -11);
        T.due("of unlike sorts", x.shift(0, 0, 2, 0, 1), -12);
        T.due("CAST is named ahead of PLACE", x.shift(0, -1, 2, 0, 1), -12);
        int[][] places = {
            {0, 0, -1}, {0, 0, MIN}, {-1, 0, 1}, {0, -1, 1}, {MIN, 0, 1}, {0, MIN, 1}, {0, 0, 3}, {3, 0, 2},
            {0, 1, 2}, {5, 0, 0}, {0, 3, 0}, {MAX, 0, 1}, {0, MAX, 1}, {0, 0, MAX}, {MAX, 0, MAX}, {1, 1, MAX}, {4, 0, 1}, {0, 2, 1}
        };
        for (int[] p : places) {
            T.due("shift(0, " + p[0] + ", 1, " + p[1] + ", " + p[2] + ")", x.shift(0, p[0], 1, p[1], p[2]), -13);
        }
        T.due("nothing changed", x.read(1, 0), 0);
    }
}
