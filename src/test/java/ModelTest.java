import java.util.Random;

/** Runs of 512 calls drawn by fixed seeds: the program and the Model must answer alike all along. */
final class ModelTest {
    private static final int RUNS = 600, CALLS = 512, TEXTS = 30000;
    private static final int[] EDGES = {Integer.MIN_VALUE, Integer.MAX_VALUE, -2, -1, Integer.MIN_VALUE + 1, Integer.MAX_VALUE - 1};
    private static final String SIGNS = "abcdefilnorstw 0159.()";

    private final Due due;
    private final Random random;
    private RunColumns x = new RunColumns();
    private Model m = new Model();
    private String run;
    private String waiting = "";
    private int values = 16;
    private int calm;

    private ModelTest(Due due, long seed) {
        this.due = due;
        this.random = new Random(seed);
    }

    public static void main(String[] args) {
        Due due = new Due("ModelTest");
        for (int seed = 0; seed < RUNS; seed++) {
            new ModelTest(due, seed).go(seed);
        }
        new ModelTest(due, -1).texts();
        due.end();
    }

    private void go(int seed) {
        run = "run " + seed;
        values = new int[] {2, 3, 5, 16}[random.nextInt(4)];
        calm = random.nextInt(4);
        int rowsFirst = random.nextInt(3) * random.nextInt(60);
        for (int i = 0; i < CALLS; i++) {
            if (i < rowsFirst) {
                add();
            } else {
                step();
            }
        }
    }

    /** Texts alone: each drawn good, then mostly broken at a place or two. */
    private void texts() {
        for (int i = 0; i < TEXTS; i++) {
            String text = someText();
            RunColumns fresh = new RunColumns();
            int fault = m.fault(text);
            due.due("query() of '" + text + "'", Due.query(fresh, text), fault < 0 ? 0 : -10 - fault);
        }
    }

    // ---- drawing

    /** Mostly first .. last, at times just outside or far outside. */
    private int some(int first, int last) {
        int chance = random.nextInt(40);
        if (chance == 0) {
            return EDGES[random.nextInt(EDGES.length)];
        }
        if (chance == 1) {
            return first - 1;
        }
        if (chance == 2) {
            return last + 1;
        }
        return first + random.nextInt(Math.max(1, last - first + 1));
    }

    private int someQuery() {
        return some(0, Math.max(0, m.count(2) - 1));
    }

    private int someRow() {
        return some(0, Math.max(0, m.count(0) - 1));
    }

    private String someFactor(int left) {
        int chance = random.nextInt(left > 0 ? 10 : 6);
        String column = "" + (char) ('a' + random.nextInt(4));
        switch (chance) {
            case 0: return "all";
            case 1:
            case 2: return column + " is " + someDigits();
            case 3:
            case 4: return column + " below " + someDigits();
            case 5: return column + " in " + someDigits() + ".." + someDigits();
            case 6:
            case 7: return "not " + someFactor(left - 1);
            default: return "(" + someEither(left - 1) + ")";
        }
    }

    private String someDigits() {
        int v = random.nextInt(random.nextInt(3) == 0 ? 16 : values);
        return v < 10 && random.nextInt(8) == 0 ? "0" + v : "" + v;
    }

    private String someEither(int left) {
        StringBuilder s = new StringBuilder(someFactor(left));
        while (random.nextInt(5) < 2 && s.length() < 60) {
            s.append(random.nextBoolean() ? " and " : " or ").append(someFactor(left));
        }
        return s.toString();
    }

    private String someText() {
        String text = someEither(random.nextInt(8));
        int breaks = random.nextInt(4) - 1;
        for (int i = 0; i < breaks; i++) {
            int place = random.nextInt(text.length() + 1);
            String sign = "" + SIGNS.charAt(random.nextInt(SIGNS.length()));
            String rest = text.substring(place);
            switch (random.nextInt(4)) {
                case 0: text = text.substring(0, place); break;
                case 1: text = text.substring(0, place) + sign + rest; break;
                case 2: text = text.substring(0, place) + (rest.isEmpty() ? "" : rest.substring(1)); break;
                default: text = text.substring(0, place) + sign + (rest.isEmpty() ? "" : rest.substring(1)); break;
            }
        }
        return text.length() > 100 ? text.substring(0, 100) : text;
    }

    // ---- a call of both

    private void same(String call, long got, long want) {
        due.due(run + ": " + call, got, want);
    }

    private void add() {
        int a = some(0, values - 1);
        int b = some(0, 15);
        int c = random.nextInt(4) == 0 ? 7 : 8;
        int d = m.count(0) / 10 % 16;
        same("add", x.add(a, b, c, d), m.add(a, b, c, d));
    }

    private void feed() {
        if (waiting.isEmpty()) {
            same("query", x.query(), m.query());
            waiting = m.count(2) >= 8 && random.nextInt(3) > 0 ? "" : someText();
            return;
        }
        int sign = random.nextInt(400) == 0 ? some(0, 127) : waiting.charAt(0);
        waiting = waiting.substring(1);
        same("feed " + sign, x.feed(sign), m.feed(sign));
    }

    private void step() {
        int chance = random.nextInt(100);
        if (m.count(2) < 8 && m.count(2) <= 2 * calm && chance < 60 || m.count(2) >= 8 && chance == 0) {
            feed();
        } else if (chance < 64) {
            add();
        } else if (chance < 90) {
            ask();
        } else {
            change();
        }
    }

    private void ask() {
        int q = someQuery();
        int c = some(0, 3);
        int k;
        switch (random.nextInt(20)) {
            case 0: k = someRow(); same("at", x.at(k, c), m.at(k, c)); break;
            case 1: k = some(0, 19); same("runs", x.runs(c, k), m.runs(c, k)); break;
            case 2: askRun(c); break;
            case 3:
            case 4:
            case 5:
            case 6: k = some(0, 7); same("of " + k, x.of(q, k), m.of(q, k)); break;
            case 7: k = some(0, 40); same("row " + k, x.row(q, k), m.row(q, k)); break;
            case 8: k = some(0, 15); same("group", x.group(q, c, k), m.group(q, c, k)); break;
            case 9: k = some(0, 4); same("edge " + k, x.edge(q, c, k), m.edge(q, c, k)); break;
            case 10: askTwo(q); break;
            case 11: k = some(0, 1); same("bounds", x.bounds(c, k), m.bounds(c, k)); break;
            case 12: k = some(0, 1); same("odds", x.odds(q, k), m.odds(q, k)); break;
            case 13: k = some(0, 1); same("mean", x.mean(q, c, k), m.mean(q, c, k)); break;
            case 14:
            case 15: k = some(0, 1); same("ends", x.ends(q, k), m.ends(q, k)); break;
            case 16: same("looked", x.looked(), m.looked()); break;
            case 17: judge(q); break;
            case 18: k = some(0, 6); same("taken", x.taken(q, k), m.taken(q, k)); break;
            default: k = some(0, 6); same("count " + k, x.count(k), m.count(k)); break;
        }
    }

    private void askRun(int column) {
        int v = some(0, 19);
        int k = some(0, random.nextInt(2) == 0 ? 4 : 60);
        same("run", x.run(column, v, k), m.run(column, v, k));
    }

    private void askTwo(int q) {
        int other = someQuery();
        int what = some(0, 4);
        same("two " + what, x.two(q, other, what), m.two(q, other, what));
    }

    /** At times the tape is first told just what is so, so that judging comes far. */
    private void judge(int q) {
        int tape = some(0, 5);
        int i = some(0, 3);
        if (random.nextBoolean() && tape >= 0 && tape < 6 && i >= 0 && i < 10) {
            int rows = Math.min(8, m.count(0));
            int n = i + rows + random.nextInt(3) - 1;
            same("tape", x.tape(tape, 4, n), m.tape(tape, 4, n));
            for (int row = 0; row < rows; row++) {
                boolean isIn = false;
                for (int k = 0; k <= row; k++) {
                    isIn |= m.row(q, k) == row;
                }
                int v = isIn ? 1 + row : 0;
                same("item", x.item(tape, i + row, v), m.item(tape, i + row, v));
            }
        }
        same("judge", x.judge(q, tape, i), m.judge(q, tape, i));
    }

    private void change() {
        int k;
        int n;
        switch (random.nextInt(16)) {
            case 0:
            case 1: same("mark", x.mark(), m.mark()); break;
            case 2: k = some(0, Math.max(0, m.count(1) - 1)); same("back", x.back(k), m.back(k)); break;
            case 3:
            case 4:
                k = random.nextInt(12) == 0 ? -1 : someRow();
                boolean isIn = random.nextBoolean();
                same("see", x.see(k, isIn), m.see(k, isIn));
                break;
            case 5:
            case 6:
            case 7:
                k = random.nextInt(20) == 0 ? -1 : some(0, 2);
                n = k == 2 ? some(0, Math.max(0, m.count(1) - 1)) : someRow();
                same("plan", x.plan(k, n), m.plan(k, n));
                break;
            case 8:
            case 9:
                k = random.nextInt(12) == 0 ? -1 : someQuery();
                n = random.nextInt(5) == 0 ? some(0, 120) : Math.max(0, m.of(k, 0));
                same("book", x.book(k, n), m.book(k, n));
                break;
            case 10: same("image", x.image(), m.image()); break;
            case 11: same("undo", x.undo(), m.undo()); break;
            default: changeTape(); break;
        }
    }

    private void changeTape() {
        int tape = some(0, 5);
        int i = some(0, 6);
        switch (random.nextInt(4)) {
            case 0:
                int sort = some(-1, 4);
                int n = random.nextInt(3) == 0 ? some(0, 60) : some(4, 8);
                same("tape", x.tape(tape, sort, n), m.tape(tape, sort, n));
                break;
            case 1:
                long v = random.nextBoolean() ? random.nextLong() : random.nextInt(5) - 2;
                same("item", x.item(tape, i, v), m.item(tape, i, v));
                break;
            case 2: same("read", x.read(tape, i), m.read(tape, i)); break;
            default:
                int other = random.nextBoolean() ? tape : some(0, 5);
                int j = some(0, 6);
                int many = some(0, 4);
                same("shift", x.shift(tape, i, other, j, many), m.shift(tape, i, other, j, many));
                break;
        }
    }
}
