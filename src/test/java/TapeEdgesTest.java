/** Each sentence on judging, the image and tapes that names a boundary: promises 23 to 31. */
final class TapeEdgesTest {
    private static final Due T = new Due("TapeEdgesTest");
    private static final int[] BITS = {8, 16, 32, 64};

    public static void main(String[] args) {
        firstOtherwise();
        noneOtherwise();
        judgeWithoutRows();
        rowEndsAhead();
        noPlaceToBegin();
        judge();
        theImage();
        imageOfEachBit();
        imageOfEachMark();
        queriesStay();
        image();
        undo();
        undoWithoutImage();
        taken();
        count();
        tapesAtFirst();
        tape();
        tapeWrong();
        lowestBits();
        booleans();
        itemWrong();
        read();
        readOfNothing();
        shiftToAnother();
        shiftToTheSame();
        shiftWrong();
        shiftBeyondEnds();
        hostRefuses();
        T.end();
    }

    /** Tape 0 becomes a row of booleans that tells just what query 0 has, from place i on, and no more. */
    private static void tellAsItIs(RunColumns x, int i, int rows) {
        x.tape(0, 4, i + rows);
        for (int k = 0; k < x.of(0, 0); k++) {
            int row = x.row(0, k);
            if (row < rows) {
                x.item(0, i + row, 1);
            }
        }
    }

    private static RunColumns withQuery(RunColumns x, String text) {
        T.due("query() of '" + text + "'", Due.query(x, text), 0);
        return x;
    }

    private static void firstOtherwise() {
        T.sentence("RESULT of a QUERY told by a row of booleans, from a place on, ROW by ROW, is JUDGED: the first ROW for which it is otherwise;");
        int[] places = {0, 1, 30, 58, 59};
        for (int place : places) {
            RunColumns x = withQuery(Make.many(60), "c is 0");
            tellAsItIs(x, 0, 60);
            T.due("as it is", x.judge(0, 0, 0), -5);
            x.item(0, place, place % 2);
            T.due("otherwise at " + place, x.judge(0, 0, 0), place);
            x.item(0, 59, 1);
            T.due("at 59 too", x.judge(0, 0, 0), place);
            x.item(0, 0, 0);
            T.due("at 0 too", x.judge(0, 0, 0), 0);
        }
        RunColumns x = withQuery(Make.many(2), "c is 0");
        tellAsItIs(x, 58, 2);
        T.due("from 58 on", x.judge(0, 0, 58), -5);
        x.item(0, 59, 1);
        T.due("row 1 is at 59", x.judge(0, 0, 58), 1);
        T.due("from 0 on", x.judge(0, 0, 0), 0);
    }

    private static void noneOtherwise() {
        T.sentence("-5: none, or there are no ROWS (wherever the place is, also if the TAPE holds nothing);");
        int[] sizes = {1, 2, 59, 60};
        for (int size : sizes) {
            RunColumns x = withQuery(Make.many(size), "c is 0");
            tellAsItIs(x, 0, size);
            T.due("just as long as " + size, x.judge(0, 0, 0), -5);
        }
        RunColumns longer = withQuery(Make.many(3), "c is 0");
        sixtyBooleans(longer);
        T.due("what stands behind does not matter", longer.judge(0, 0, 0), -5);
    }

    private static void sixtyBooleans(RunColumns x) {
        x.tape(0, 4, 60);
        for (int i = 0; i < 60; i++) {
            x.item(0, i, i == 1 ? 0 : 1);
        }
    }

    private static void judgeWithoutRows() {
        RunColumns x = withQuery(new RunColumns(), "all");
        int[] places = {Make.MIN, -1, 0, 1, 2, 3, 59, 60, Make.MAX};
        for (int place : places) {
            for (int tape = 0; tape < 6; tape++) {
                T.due("no rows, nothing, from " + place, x.judge(0, tape, place), -5);
            }
        }
        x.tape(2, 4, 2);
        x.tape(3, 4, 0);
        for (int place : places) {
            T.due("no rows, a row of two, from " + place, x.judge(0, 2, place), -5);
            T.due("no rows, a row of none, from " + place, x.judge(0, 3, place), -5);
        }
        RunColumns y = withQuery(new RunColumns(), "all");
        y.mark();
        y.add(1, 1, 1, 1);
        T.due("a row", y.judge(0, 0, 0), 1000);
        y.back(0);
        T.due("it is no more", y.judge(0, 0, 0), -5);
    }

    private static void rowEndsAhead() {
        T.sentence("1000 and how many were looked at, if the row ends ahead of that");
        for (int looked = 0; looked <= 60; looked += 10) {
            RunColumns x = withQuery(Make.many(61), "c is 0");
            tellAsItIs(x, 0, looked);
            T.due("it ends behind " + looked, x.judge(0, 0, 0), 1000 + looked);
            if (looked > 0) {
                x.item(0, looked - 1, 1);
                T.due("what is otherwise in its last is told", x.judge(0, 0, 0), looked - 1);
            }
        }
        RunColumns x = withQuery(Make.many(120), "all");
        tellAsItIs(x, 0, 60);
        T.due("from 0 on", x.judge(0, 0, 0), 1060);
        T.due("from 1 on", x.judge(0, 0, 1), 1059);
        T.due("from 59 on", x.judge(0, 0, 59), 1001);
        T.due("from 60 on", x.judge(0, 0, 60), 1000);
        T.due("from 61 on", x.judge(0, 0, 61), 1000);
        T.due("from MAX on", x.judge(0, 0, Make.MAX), 1000);
        T.due("from MAX - 118 on", x.judge(0, 0, Make.MAX - 118), 1000);
        RunColumns one = withQuery(Make.many(2), "all");
        tellAsItIs(one, 0, 1);
        T.due("one too short", one.judge(0, 0, 0), 1001);
    }

    private static void noPlaceToBegin() {
        T.sentence("(or the place is below 0, or the TAPE holds nothing).");
        RunColumns x = withQuery(Make.many(3), "not all");
        x.tape(0, 4, 60);
        T.due("from 0", x.judge(0, 0, 0), -5);
        int[] below = {-1, -2, -59, -60, -120, Make.MIN};
        for (int place : below) {
            T.due("from " + place, x.judge(0, 0, place), 1000);
            T.due("nothing, from " + place, x.judge(0, 1, place), 1000);
        }
        int[] places = {0, 1, 60, Make.MAX};
        for (int place : places) {
            T.due("nothing, from " + place, x.judge(0, 5, place), 1000);
        }
        x.tape(0, -1, 0);
        T.due("it holds nothing any more", x.judge(0, 0, 0), 1000);
        x.tape(0, 4, 0);
        T.due("a row of none", x.judge(0, 0, 0), 1000);
    }

    private static void judge() {
        T.sentence("JUDGED from place i of a TAPE on. NONE: query, tape; CAST: it is no row of booleans.");
        RunColumns[] both = {Make.many(3), new RunColumns()};
        for (RunColumns x : both) {
            T.due("without queries", x.judge(0, 0, 0), -1);
            withQuery(x, "all");
            for (int sort = 0; sort <= 3; sort++) {
                x.tape(sort, sort, 5);
            }
            for (int sort = 0; sort <= 3; sort++) {
                T.due("sort " + sort, x.judge(0, sort, 0), -12);
                T.due("sort " + sort + " from -1", x.judge(0, sort, -1), -12);
                T.due("sort " + sort + " from MAX", x.judge(0, sort, Make.MAX), -12);
                for (int w : Make.outside(0, 0)) {
                    T.due("NONE stands ahead of CAST: query " + w, x.judge(w, sort, 0), -1);
                }
            }
            x.tape(0, 0, 0);
            T.due("a row of no bytes", x.judge(0, 0, 0), -12);
            for (int w : Make.outside(0, 5)) {
                T.due("tape " + w, x.judge(0, w, 0), -1);
                T.due("neither", x.judge(1, w, 0), -1);
            }
            for (int w : Make.outside(0, 0)) {
                T.due("query " + w, x.judge(w, 4, 0), -1);
            }
        }
    }

    /** A row of each thing that an image holds; query 0 is all. */
    private static RunColumns someOfAll() {
        RunColumns x = Make.many(5);
        x.mark();
        x.add(7, 7, 7, 7);
        withQuery(x, "all");
        x.see(0, false);
        x.plan(0, 0);
        x.book(0, 6);
        return x;
    }

    private static void counts(RunColumns x, String why, int... wants) {
        for (int what = 0; what < wants.length; what++) {
            T.due(why + ": count(" + what + ")", x.count(what), wants[what]);
        }
    }

    private static void theImage() {
        T.sentence("THE IMAGE: ROWS, MARKS, SEEN, the PLAN, the BOOK");
        RunColumns x = someOfAll();
        x.image();
        x.back(0);
        x.add(1, 2, 3, 4);
        x.add(1, 2, 3, 4);
        x.mark();
        x.see(-1, true);
        x.see(1, true);
        x.see(1, true);
        x.plan(-1, 0);
        x.plan(1, 0);
        x.plan(1, 0);
        x.book(-1, 0);
        x.book(0, 0);
        x.book(0, 0);
        counts(x, "changed", 7, 2, 1, 2, 2, 2);
        T.due("undo()", x.undo(), 6);
        counts(x, "as it was", 6, 1, 1, 1, 1, 1);
        T.due("row 5", x.at(5, 0), 7);
        T.due("runs of its bits", x.runs(3, 7), 2);
        T.due("none of what came", x.runs(2, 3), 1);
        T.due("seen", x.bounds(0, 0), 1);
        T.due("the plan", x.ends(0, 0), 5);
        T.due("the book", x.looked(), -5);
        T.due("the mark", x.back(0), 1);
        RunColumns y = someOfAll();
        RunColumns none = new RunColumns();
        none.image();
        T.due("another object's image is not this one's", y.undo(), -3);
        RunColumns full = Make.many(120);
        full.mark();
        full.image();
        full.back(0);
        T.due("all 120", full.undo(), 120);
        T.due("the last", full.at(119, 1), 7);
        T.due("no room", full.add(0, 0, 0, 0), -4);
    }

    private static void imageOfEachBit() {
        for (int column = 0; column < 4; column++) {
            for (int v = 0; v < 16; v++) {
                RunColumns x = new RunColumns();
                x.mark();
                int[] values = {v, 15 - v, v, v};
                addIn(x, column, values);
                x.image();
                x.back(0);
                addIn(x, column, 15 - v, v, 15 - v, 15 - v);
                x.undo();
                T.due("runs of " + v + " in " + column, x.runs(column, v), 3);
                T.due("its last run", x.run(column, v, 2), -12);
                for (int k = 0; k < 4; k++) {
                    T.due("runs of slice " + k, x.runs(column, 16 + k), 3);
                    T.due("its last run", x.run(column, 16 + k, 2), (v >> k) % 2 == 1 ? -12 : 2);
                }
            }
        }
    }

    /** Rows with these values in the column, and 0 in the others. */
    private static void addIn(RunColumns x, int column, int... values) {
        for (int v : values) {
            x.add(column == 0 ? v : 0, column == 1 ? v : 0, column == 2 ? v : 0, column == 3 ? v : 0);
        }
    }

    private static void imageOfEachMark() {
        RunColumns x = new RunColumns();
        for (int i = 0; i < 10; i++) {
            x.add(i, i, i, i);
            x.mark();
        }
        x.image();
        x.back(0);
        for (int i = 0; i < 9; i++) {
            x.mark();
        }
        T.due("ten rows", x.undo(), 10);
        for (int i = 9; i >= 0; i--) {
            x.back(i);
            T.due("mark " + i + " tells of", x.count(0), i + 1);
        }
    }

    private static void queriesStay() {
        T.sentence("(QUERIES stay as they are).");
        RunColumns x = Make.many(5);
        withQuery(x, "c is 0");
        x.image();
        x.add(0, 0, 0, 0);
        T.due("another", Due.query(x, "c is 1"), 1);
        Due.feed(x, "al");
        x.tape(1, 3, 2);
        x.item(1, 1, 9);
        T.due("undo()", x.undo(), 5);
        T.due("two queries", x.count(2), 2);
        T.due("the first by the rows now", x.of(0, 0), 3);
        T.due("the second by the rows now", x.of(1, 0), 2);
        T.due("the text is none of the image", x.feed('l'), 3);
        T.due("it is read", x.query(), 2);
        T.due("nor are tapes", x.read(1, 1), 9);
    }

    private static void image() {
        T.sentence("THE IMAGE is taken: how many ROWS there are.");
        for (int size : Make.SIZES) {
            T.due("of " + size, Make.many(size).image(), size);
        }
        RunColumns x = Make.many(3);
        T.due("of 3", x.image(), 3);
        x.add(0, 0, 0, 0);
        T.due("another of 4", x.image(), 4);
        x.add(0, 0, 0, 0);
        T.due("the last taken counts", x.undo(), 4);
    }

    private static void undo() {
        T.sentence("All is as THE IMAGE: how many ROWS.");
        RunColumns x = Make.many(2);
        x.image();
        T.due("nothing has come", x.undo(), 2);
        for (int i = 0; i < 3; i++) {
            x.add(i, i, i, i);
            T.due("the image stays for undo " + i, x.undo(), 2);
        }
        x.mark();
        x.back(0);
        T.due("undo()", x.undo(), 2);
        T.due("a mark that came is no more", x.count(1), 0);
        RunColumns y = Make.many(4);
        y.image();
        T.due("marks tell rows of then", y.mark(), 0);
        y.add(9, 9, 9, 9);
        y.undo();
        T.due("the image is not of what came", y.at(4, 0), -1);
        T.due("rows come behind those of the image", y.add(8, 8, 8, 8), 4);
        T.due("image()", y.image(), 5);
        y.undo();
        T.due("it has the row", y.at(4, 0), 8);
    }

    private static void undoWithoutImage() {
        T.sentence("STATE: there is none.");
        T.due("new", new RunColumns().undo(), -3);
        RunColumns x = someOfAll();
        T.due("none was taken", x.undo(), -3);
        counts(x, "nothing changed", 6, 1, 1, 1, 1, 1);
        RunColumns empty = new RunColumns();
        T.due("an image of no rows", empty.image(), 0);
        T.due("is one", empty.undo(), 0);
    }

    private static void taken() {
        T.sentence("What a QUERY is, taken for one of sort 0 all, 1 is, 2 below, 3 in, 4 not, 5 and, 6 or: its sort. BAD: sort; NOTHING: no such QUERY; CAST.");
        String[] texts = {"all", "a is 1", "b below 0", "c in 15..0", "not all", "all and all", "all or all",
            "(all)", "((b is 1))", "(d below 3)", "(a in 1..1)", "(not all)", "(all and all)", "(all or all)",
            "all or all and all", "not all and all", "not (all or all)", "(all or all) and all"};
        int[] sorts = {0, 1, 2, 3, 4, 5, 6, 0, 1, 2, 3, 4, 5, 6, 6, 5, 4, 5};
        for (int i = 0; i < texts.length; i++) {
            RunColumns x = withQuery(new RunColumns(), texts[i]);
            for (int sort = 0; sort <= 6; sort++) {
                T.due("'" + texts[i] + "' taken for " + sort, x.taken(0, sort), sort == sorts[i] ? sort : -12);
            }
        }
        RunColumns none = new RunColumns();
        RunColumns x = withQuery(new RunColumns(), "all");
        for (int w : Make.outside(0, 6)) {
            T.due("sort " + w, x.taken(0, w), -2);
            T.due("BAD stands ahead of NOTHING: sort " + w, x.taken(1, w), -2);
            T.due("without queries: sort " + w, none.taken(0, w), -2);
        }
        for (int sort = 0; sort <= 6; sort++) {
            T.due("without queries", none.taken(0, sort), -11);
            for (int w : Make.outside(0, 0)) {
                T.due("NOTHING: query " + w, x.taken(w, sort), -11);
            }
        }
    }

    private static void count() {
        T.sentence("How many: 0 ROWS, 1 MARKS, 2 QUERIES, 3 SEEN, 4 of the PLAN, 5 of the BOOK, 6 bytes of THE TEXT. BAD.");
        counts(new RunColumns(), "new", 0, 0, 0, 0, 0, 0, 0);
        RunColumns x = Make.many(120);
        for (int i = 0; i < 11; i++) {
            x.mark();
            Due.query(x, "all");
            x.see(0, true);
            x.plan(0, 0);
            x.book(0, 0);
        }
        counts(x, "all full", 120, 10, 8, 6, 10, 8, 9);
        for (int i = 0; i < 100; i++) {
            x.feed(' ');
        }
        T.due("the text full", x.count(6), 100);
        RunColumns[] both = {x, new RunColumns()};
        for (RunColumns y : both) {
            for (int w : Make.outside(0, 6)) {
                T.due("count(" + w + ")", y.count(w), -2);
            }
        }
    }

    private static void tapesAtFirst() {
        T.sentence("3 TAPES 0 .. 5 hold nothing (at first), or a row of 0 bytes, 1 shorts, 2 ints, 3 longs, 4 booleans (items 0, 1).");
        RunColumns x = new RunColumns();
        for (int tape = 0; tape < 6; tape++) {
            T.due("read(" + tape + ", 0)", x.read(tape, 0), Make.NO);
            T.due("item(" + tape + ", 0, 1)", x.item(tape, 0, 1), -11);
            T.due("shift of " + tape, x.shift(tape, 0, tape, 0, 0), -11);
        }
        for (int tape = 0; tape < 6; tape++) {
            T.due("tape " + tape, x.tape(tape, tape % 5, tape), 1);
        }
        for (int tape = 0; tape < 6; tape++) {
            for (int i = 0; i < tape; i++) {
                T.due("item " + i + " of " + tape, x.read(tape, i), 0);
            }
            T.due("no more of " + tape, x.read(tape, tape), Make.NO);
        }
    }

    private static void tape() {
        T.sentence("A TAPE becomes a row of n (0 .. 60) of a sort, all 0, or holds nothing (sort -1: n does not matter): 1.");
        RunColumns x = new RunColumns();
        for (int sort = 0; sort <= 4; sort++) {
            T.due("60 of " + sort, x.tape(0, sort, 60), 1);
            for (int i = 0; i < 60; i++) {
                T.due("item " + i, x.read(0, i), 0);
                x.item(0, i, -1);
            }
            T.due("no item 60", x.read(0, 60), Make.NO);
        }
        RunColumns y = new RunColumns();
        y.tape(1, 3, 60);
        for (int i = 0; i < 60; i++) {
            y.item(1, i, 7);
        }
        T.due("one", y.tape(1, 3, 1), 1);
        T.due("it is 0", y.read(1, 0), 0);
        T.due("there is one", y.read(1, 1), Make.NO);
        T.due("60 again", y.tape(1, 3, 60), 1);
        for (int i = 0; i < 60; i++) {
            T.due("item " + i + " is 0", y.read(1, i), 0);
        }
        int[] any = {Make.MIN, -1, 0, 1, 60, 61, Make.MAX};
        for (int n : any) {
            y.tape(1, 4, 3);
            T.due("sort -1, n " + n, y.tape(1, -1, n), 1);
            T.due("holds nothing", y.read(1, 0), Make.NO);
            T.due("holds nothing", y.item(1, 0, 1), -11);
            T.due("holds nothing already", y.tape(1, -1, n), 1);
        }
        T.due("a row of none", y.tape(1, 4, 0), 1);
        T.due("is there, but has no place", y.item(1, 0, 1), -13);
    }

    private static void tapeWrong() {
        T.sentence("NONE: tape; BAD: sort, n above 60; SIZE.");
        RunColumns x = new RunColumns();
        x.tape(5, 3, 2);
        x.item(5, 1, 77);
        for (int w : Make.outside(0, 5)) {
            T.due("tape " + w, x.tape(w, 0, 1), -1);
            T.due("tape " + w + " to nothing", x.tape(w, -1, 1), -1);
            T.due("NONE stands ahead of BAD: tape " + w, x.tape(w, 5, 61), -1);
            T.due("NONE stands ahead of SIZE: tape " + w, x.tape(w, 0, -1), -1);
        }
        int[] noSort = {-2, 5, Make.MIN, Make.MAX};
        for (int w : noSort) {
            T.due("sort " + w, x.tape(5, w, 1), -2);
            T.due("BAD stands ahead of SIZE: sort " + w, x.tape(5, w, -1), -2);
            T.due("sort " + w + ", n 61", x.tape(5, w, 61), -2);
        }
        for (int sort = 0; sort <= 4; sort++) {
            T.due("n 61", x.tape(5, sort, 61), -2);
            T.due("n MAX", x.tape(5, sort, Make.MAX), -2);
            T.due("n -1", x.tape(5, sort, -1), -14);
            T.due("n MIN", x.tape(5, sort, Make.MIN), -14);
        }
        T.due("it is as it was", x.read(5, 1), 77);
        T.due("nor is it longer", x.read(5, 2), Make.NO);
    }

    private static void lowestBits() {
        T.sentence("Item i of a TAPE becomes v (its lowest bits, as many as an item has;");
        for (int sort = 0; sort <= 3; sort++) {
            RunColumns x = new RunColumns();
            x.tape(2, sort, 3);
            int bits = BITS[sort];
            long most = Long.MAX_VALUE >> (64 - bits);
            becomes(x, sort, 0, 0);
            becomes(x, sort, 1, 1);
            becomes(x, sort, -1, -1);
            becomes(x, sort, most, most);
            becomes(x, sort, most + 1, -most - 1);
            becomes(x, sort, -most - 1, -most - 1);
            becomes(x, sort, -most - 2, most);
            becomes(x, sort, 2 * most + 1, -1);
            becomes(x, sort, 2 * most + 2, 0);
            becomes(x, sort, 2 * most + 3, 1);
            becomes(x, sort, Long.MAX_VALUE, bits == 64 ? Long.MAX_VALUE : -1);
            becomes(x, sort, Long.MIN_VALUE, bits == 64 ? Long.MIN_VALUE : 0);
            becomes(x, sort, Long.MIN_VALUE + 1, bits == 64 ? Long.MIN_VALUE + 1 : 1);
        }
    }

    private static void becomes(RunColumns x, int sort, long v, long want) {
        T.due("item(2, 1, " + v + ")", x.item(2, 1, v), 1);
        T.due("sort " + sort + " holds", x.read(2, 1), want);
        T.due("the item ahead", x.read(2, 0), 0);
        T.due("the item behind", x.read(2, 2), 0);
    }

    private static void booleans() {
        T.sentence("booleans: whether v is not 0): 1.");
        RunColumns x = new RunColumns();
        x.tape(2, 4, 3);
        long[] values = {1, 2, -1, 256, 65536, 1L << 32, 1L << 62, Long.MIN_VALUE, Long.MAX_VALUE};
        for (long v : values) {
            becomes(x, 4, v, 1);
            becomes(x, 4, 0, 0);
        }
    }

    private static void itemWrong() {
        T.sentence("NONE; NOTHING; PLACE.");
        RunColumns x = new RunColumns();
        x.tape(0, 3, 60);
        x.tape(1, 3, 2);
        x.tape(2, 3, 0);
        T.due("the last of 60", x.item(0, 59, 5), 1);
        T.due("the first", x.item(0, 0, 5), 1);
        for (int w : Make.outside(0, 59)) {
            T.due("place " + w + " of 60", x.item(0, w, 5), -13);
            T.due("place " + w + " of 2", x.item(1, w, 5), -13);
            T.due("place " + w + " of none", x.item(2, w, 5), -13);
            T.due("NOTHING stands ahead of PLACE: " + w, x.item(3, w, 5), -11);
        }
        T.due("place 2 of 2", x.item(1, 2, 5), -13);
        T.due("place 0 of none", x.item(2, 0, 5), -13);
        T.due("nothing", x.item(5, 0, 5), -11);
        for (int w : Make.outside(0, 5)) {
            T.due("tape " + w, x.item(w, 0, 5), -1);
            T.due("tape " + w + ", place -1", x.item(w, -1, 5), -1);
        }
        T.due("item 0 of 2 is as it was", x.read(1, 0), 0);
        T.due("item 1 of 2 is as it was", x.read(1, 1), 0);
    }

    private static void read() {
        T.sentence("Item i of a TAPE.");
        RunColumns x = new RunColumns();
        x.tape(0, 3, 60);
        for (int i = 0; i < 60; i++) {
            x.item(0, i, 1000L * i - 30000L);
        }
        for (int i = 0; i < 60; i++) {
            T.due("item " + i, x.read(0, i), 1000L * i - 30000L);
        }
    }

    private static void readOfNothing() {
        T.sentence("NO: no such TAPE, nothing there, no such place.");
        RunColumns x = new RunColumns();
        for (int tape = 0; tape < 5; tape++) {
            x.tape(tape, tape, 2);
            x.item(tape, 1, 1);
        }
        for (int w : Make.outside(0, 5)) {
            T.due("tape " + w, x.read(w, 0), Make.NO);
        }
        T.due("nothing there", x.read(5, 0), Make.NO);
        T.due("nothing there, at -1", x.read(5, -1), Make.NO);
        for (int tape = 0; tape < 5; tape++) {
            for (int w : Make.outside(0, 1)) {
                T.due("place " + w + " of " + tape, x.read(tape, w), Make.NO);
            }
            T.due("place 1 of " + tape, x.read(tape, 1), 1);
        }
        x.tape(0, -1, 0);
        T.due("nothing there any more", x.read(0, 1), Make.NO);
        x.tape(1, 1, 1);
        T.due("no such place any more", x.read(1, 1), Make.NO);
    }

    /** Tape 0 and 1 are rows of five longs: 1 .. 5 and 11 .. 15. */
    private static RunColumns twoTapes() {
        RunColumns x = new RunColumns();
        x.tape(0, 3, 5);
        x.tape(1, 3, 5);
        for (int i = 0; i < 5; i++) {
            x.item(0, i, i + 1);
            x.item(1, i, i + 11);
        }
        return x;
    }

    private static void holds(RunColumns x, String why, int tape, long... wants) {
        for (int i = 0; i < wants.length; i++) {
            T.due(why + ": read(" + tape + ", " + i + ")", x.read(tape, i), wants[i]);
        }
        T.due(why + ": its end", x.read(tape, wants.length), Make.NO);
    }

    private static void shiftToAnother() {
        T.sentence("n items of a TAPE from i on come to another one (or the same) from j on, as they all were before: n.");
        RunColumns x = twoTapes();
        T.due("all five", x.shift(0, 0, 1, 0, 5), 5);
        holds(x, "all five", 1, 1, 2, 3, 4, 5);
        holds(x, "they stay", 0, 1, 2, 3, 4, 5);
        x = twoTapes();
        T.due("the first to the end", x.shift(0, 0, 1, 4, 1), 1);
        holds(x, "the first to the end", 1, 11, 12, 13, 14, 1);
        x = twoTapes();
        T.due("the last to the first", x.shift(0, 4, 1, 0, 1), 1);
        holds(x, "the last to the first", 1, 5, 12, 13, 14, 15);
        x = twoTapes();
        T.due("two, within", x.shift(1, 1, 0, 2, 2), 2);
        holds(x, "two, within", 0, 1, 2, 12, 13, 5);
        x = twoTapes();
        T.due("none", x.shift(0, 0, 1, 0, 0), 0);
        T.due("none, at both ends", x.shift(0, 5, 1, 5, 0), 0);
        holds(x, "none", 0, 1, 2, 3, 4, 5);
        holds(x, "none", 1, 11, 12, 13, 14, 15);
        x.tape(2, 3, 0);
        T.due("none of none", x.shift(2, 0, 2, 0, 0), 0);
        for (int sort = 0; sort <= 4; sort++) {
            RunColumns y = new RunColumns();
            y.tape(0, sort, 60);
            y.tape(5, sort, 60);
            y.item(0, 0, 1);
            y.item(0, 59, 1);
            T.due("60 of sort " + sort, y.shift(0, 0, 5, 0, 60), 60);
            T.due("the first", y.read(5, 0), 1);
            T.due("the last", y.read(5, 59), 1);
            T.due("between", y.read(5, 30), 0);
        }
    }

    private static void shiftToTheSame() {
        RunColumns x = twoTapes();
        T.due("up by one", x.shift(0, 0, 0, 1, 4), 4);
        holds(x, "up by one", 0, 1, 1, 2, 3, 4);
        x = twoTapes();
        T.due("down by one", x.shift(0, 1, 0, 0, 4), 4);
        holds(x, "down by one", 0, 2, 3, 4, 5, 5);
        x = twoTapes();
        T.due("up by two", x.shift(0, 0, 0, 2, 3), 3);
        holds(x, "up by two", 0, 1, 2, 1, 2, 3);
        x = twoTapes();
        T.due("to where they are", x.shift(0, 0, 0, 0, 5), 5);
        holds(x, "to where they are", 0, 1, 2, 3, 4, 5);
    }

    private static void shiftWrong() {
        T.sentence("NONE: tapes; NOTHING; CAST: of unlike sorts; PLACE: n, i or j is below 0,");
        RunColumns x = twoTapes();
        x.tape(2, 2, 5);
        for (int w : Make.outside(0, 5)) {
            T.due("from " + w, x.shift(w, 0, 1, 0, 1), -1);
            T.due("to " + w, x.shift(0, 0, w, 0, 1), -1);
            T.due("both", x.shift(w, 0, w, 0, 1), -1);
            T.due("NONE stands ahead of NOTHING: to " + w, x.shift(3, -1, w, 0, 1), -1);
            T.due("NONE stands ahead of NOTHING: from " + w, x.shift(w, -1, 3, 0, 1), -1);
        }
        T.due("of nothing", x.shift(3, 0, 0, 0, 1), -11);
        T.due("to nothing", x.shift(0, 0, 3, 0, 1), -11);
        T.due("of nothing to nothing", x.shift(3, 0, 4, 0, 0), -11);
        T.due("NOTHING stands ahead of PLACE", x.shift(0, -1, 3, -1, -1), -11);
        for (int one = 0; one <= 4; one++) {
            for (int other = 0; other <= 4; other++) {
                RunColumns y = new RunColumns();
                y.tape(0, one, 2);
                y.tape(1, other, 2);
                T.due("of sort " + one + " to " + other, y.shift(0, 0, 1, 0, 2), one == other ? 2 : -12);
                T.due("none of sort " + one + " to " + other, y.shift(0, 0, 1, 0, 0), one == other ? 0 : -12);
                T.due("CAST stands ahead of PLACE", y.shift(0, -1, 1, 9, -1), one == other ? -13 : -12);
            }
        }
        int[] below = {-1, -2, Make.MIN};
        for (int w : below) {
            T.due("i " + w, x.shift(0, w, 1, 0, 1), -13);
            T.due("j " + w, x.shift(0, 0, 1, w, 1), -13);
            T.due("n " + w, x.shift(0, 0, 1, 0, w), -13);
            T.due("i " + w + ", none", x.shift(0, w, 1, 0, 0), -13);
            T.due("j " + w + ", none", x.shift(0, 0, 1, w, 0), -13);
            T.due("n " + w + " at the ends", x.shift(0, 5, 1, 5, w), -13);
            T.due("all " + w, x.shift(0, w, 0, w, w), -13);
        }
        holds(x, "nothing changed", 0, 1, 2, 3, 4, 5);
        holds(x, "nothing changed", 1, 11, 12, 13, 14, 15);
    }

    private static void shiftBeyondEnds() {
        T.sentence("or beyond either's end.");
        RunColumns x = twoTapes();
        x.tape(1, 3, 3);
        x.tape(2, 3, 0);
        int[][] beyond = {
            {0, 0, 4}, {0, 1, 3}, {0, 2, 2}, {0, 3, 1}, {0, 4, 0}, {5, 0, 1}, {4, 0, 2}, {3, 0, 3}, {6, 0, 0},
            {0, 0, Make.MAX}, {1, 1, Make.MAX}, {Make.MAX, 0, 1}, {0, Make.MAX, 1}, {Make.MAX, 0, 0}, {0, Make.MAX, 0},
            {Make.MAX, Make.MAX, Make.MAX}, {Make.MAX, 0, Make.MAX}, {0, Make.MAX, Make.MAX}, {Make.MAX, Make.MAX, 2}
        };
        for (int[] b : beyond) {
            T.due("shift(0, " + b[0] + ", 1, " + b[1] + ", " + b[2] + ")", x.shift(0, b[0], 1, b[1], b[2]), -13);
        }
        T.due("the same: from beyond", x.shift(0, 2, 0, 0, 4), -13);
        T.due("the same: to beyond", x.shift(0, 0, 0, 2, 4), -13);
        T.due("of none", x.shift(2, 0, 0, 0, 1), -13);
        T.due("to none", x.shift(0, 0, 2, 0, 1), -13);
        holds(x, "nothing changed", 0, 1, 2, 3, 4, 5);
        holds(x, "nothing changed", 1, 0, 0, 0);
        T.due("just to its end", x.shift(0, 2, 1, 0, 3), 3);
        holds(x, "just to its end", 1, 3, 4, 5);
    }

    private static void hostRefuses() {
        T.sentence("The host's refusals: NOTHING (-11): nothing is there; CAST (-12): another sort or kind; PLACE (-13): no such place; SIZE (-14): a size below 0.");
        RunColumns x = withQuery(Make.many(2), "all");
        x.tape(0, 0, 1);
        x.tape(1, 1, 1);
        T.due("NOTHING: no such query", x.taken(1, 0), -11);
        T.due("NOTHING: an item of nothing", x.item(2, 0, 1), -11);
        T.due("NOTHING: a shift of nothing", x.shift(2, 0, 0, 0, 0), -11);
        T.due("CAST: a query of another sort", x.taken(0, 1), -12);
        T.due("CAST: a row of another sort", x.judge(0, 0, 0), -12);
        T.due("CAST: rows of unlike sorts", x.shift(0, 0, 1, 0, 1), -12);
        T.due("PLACE: of an item", x.item(0, 1, 1), -13);
        T.due("PLACE: of a shift", x.shift(0, 1, 0, 0, 1), -13);
        T.due("SIZE", x.tape(0, 0, -1), -14);
    }
}
