import java.util.ArrayList;
import java.util.Arrays;
import java.util.List;
import java.util.TreeSet;

/**
 * The document told a second time, in the plainest way and with none of the program's thoughts:
 * rows as a list, results row by row, texts matched by trying every way, queries as nested texts.
 */
final class Model {
    static final long NO = Long.MIN_VALUE;

    /** What an image holds. */
    private static final class Held {
        List<int[]> rows = new ArrayList<>();
        List<Integer> marks = new ArrayList<>();
        List<int[]> seen = new ArrayList<>();
        List<int[]> plan = new ArrayList<>();
        List<int[]> book = new ArrayList<>();

        Held copy() {
            Held h = new Held();
            h.rows.addAll(rows);
            h.marks.addAll(marks);
            h.seen.addAll(seen);
            h.plan.addAll(plan);
            h.book.addAll(book);
            return h;
        }
    }

    private Held now = new Held();
    private Held image = null;
    private String text = "";
    private final List<String> queries = new ArrayList<>();
    private final long[][] tapes = new long[6][];
    private final int[] sorts = new int[6];

    // ---- texts

    private String matched;
    private boolean wantedMore;

    /** Whether text, from place on, goes on with what is told; notes if the text ended before that. */
    private boolean goesOn(int place, String told) {
        for (int i = 0; i < told.length(); i++) {
            if (place + i >= matched.length()) {
                wantedMore = true;
                return false;
            }
            if (matched.charAt(place + i) != told.charAt(i)) {
                return false;
            }
        }
        return true;
    }

    private TreeSet<Integer> behind(TreeSet<Integer> places, String told) {
        TreeSet<Integer> ends = new TreeSet<>();
        for (int p : places) {
            if (goesOn(p, told)) {
                ends.add(p + told.length());
            }
        }
        return ends;
    }

    private TreeSet<Integer> behindValue(TreeSet<Integer> places) {
        TreeSet<Integer> ends = new TreeSet<>();
        for (int v = 0; v <= 15; v++) {
            ends.addAll(behind(places, "" + v));
            if (v < 10) {
                ends.addAll(behind(places, "0" + v));
            }
        }
        return ends;
    }

    private TreeSet<Integer> behindE(TreeSet<Integer> places, int within) {
        TreeSet<Integer> ends = behindT(places, within);
        TreeSet<Integer> last = ends;
        while (!last.isEmpty()) {
            last = behindT(behind(last, " or "), within);
            last.removeAll(ends);
            ends.addAll(last);
        }
        return ends;
    }

    private TreeSet<Integer> behindT(TreeSet<Integer> places, int within) {
        TreeSet<Integer> ends = behindF(places, within);
        TreeSet<Integer> last = ends;
        while (!last.isEmpty()) {
            last = behindF(behind(last, " and "), within);
            last.removeAll(ends);
            ends.addAll(last);
        }
        return ends;
    }

    private TreeSet<Integer> behindF(TreeSet<Integer> places, int within) {
        TreeSet<Integer> ends = new TreeSet<>();
        if (places.isEmpty()) {
            return ends;
        }
        if (within < 6) {
            ends.addAll(behindF(behind(places, "not "), within + 1));
            ends.addAll(behind(behindE(behind(places, "("), within + 1), ")"));
        }
        ends.addAll(behind(places, "all"));
        for (String column : new String[] {"a", "b", "c", "d"}) {
            ends.addAll(behindValue(behind(places, column + " is ")));
            ends.addAll(behindValue(behind(places, column + " below ")));
            ends.addAll(behindValue(behind(behindValue(behind(places, column + " in ")), "..")));
        }
        return ends;
    }

    private boolean isWhole(String t) {
        matched = t;
        wantedMore = false;
        TreeSet<Integer> start = new TreeSet<>();
        start.add(0);
        return behindE(start, 0).contains(t.length());
    }

    private boolean canGoOn(String t) {
        return isWhole(t) || wantedMore;
    }

    private static boolean isLetter(String t, int place) {
        return place >= 0 && place < t.length() && t.charAt(place) >= 'a' && t.charAt(place) <= 'z';
    }

    /** -1 for none. */
    int fault(String t) {
        if (isWhole(t)) {
            return -1;
        }
        int place = 0;
        while (place < t.length() && canGoOn(t.substring(0, place + 1))) {
            place++;
        }
        int start = place;
        while (isLetter(t, start - 1)) {
            start--;
        }
        int end = place;
        while (isLetter(t, end)) {
            end++;
        }
        if (start == end) {
            return place;
        }
        String word = t.substring(0, end);
        boolean stands = end == place && (isWhole(word) || canGoOn(word + " ") || canGoOn(word + ")"));
        return stands ? place : start;
    }

    // ---- what a good text says

    /** The place of the last such word that stands in no ( ), -1 if there is none. */
    private static int lastOpen(String t, String word) {
        int depth = 0;
        for (int i = t.length() - 1; i >= 0; i--) {
            if (t.charAt(i) == ')') {
                depth++;
            } else if (t.charAt(i) == '(') {
                depth--;
            } else if (depth == 0 && t.startsWith(word, i)) {
                return i;
            }
        }
        return -1;
    }

    /** The sort of a text, and its parts: {"or", x, y}, {"not", x}, {"is", column, v} .. */
    private static String[] parts(String t) {
        for (String word : new String[] {" or ", " and "}) {
            int at = lastOpen(t, word);
            if (at >= 0) {
                return new String[] {word.trim(), t.substring(0, at), t.substring(at + word.length())};
            }
        }
        if (t.startsWith("not ")) {
            return new String[] {"not", t.substring(4)};
        }
        if (t.startsWith("(")) {
            return parts(t.substring(1, t.length() - 1));
        }
        if (t.equals("all")) {
            return new String[] {"all"};
        }
        String[] words = t.split(" ");
        return new String[] {words[1], words[0], words[2]};
    }

    private static boolean isSo(int[] row, String t) {
        String[] p = parts(t);
        switch (p[0]) {
            case "all": return true;
            case "or": return isSo(row, p[1]) || isSo(row, p[2]);
            case "and": return isSo(row, p[1]) && isSo(row, p[2]);
            case "not": return !isSo(row, p[1]);
            default:
        }
        int value = row[p[1].charAt(0) - 'a'];
        if (p[0].equals("is")) {
            return value == Integer.parseInt(p[2]);
        }
        if (p[0].equals("below")) {
            return value < Integer.parseInt(p[2]);
        }
        int dots = p[2].indexOf("..");
        return value >= Integer.parseInt(p[2].substring(0, dots)) && value <= Integer.parseInt(p[2].substring(dots + 2));
    }

    private static List<Boolean> result(List<int[]> rows, String t) {
        List<Boolean> bits = new ArrayList<>();
        for (int[] row : rows) {
            bits.add(isSo(row, t));
        }
        return bits;
    }

    private static List<Integer> lengths(List<Boolean> bits) {
        List<Integer> lengths = new ArrayList<>();
        for (int i = 0; i < bits.size(); i++) {
            if (i > 0 && bits.get(i).equals(bits.get(i - 1))) {
                lengths.set(lengths.size() - 1, lengths.get(lengths.size() - 1) + 1);
            } else {
                lengths.add(1);
            }
        }
        return lengths;
    }

    private static List<Boolean> kind(List<int[]> rows, int column, int v) {
        List<Boolean> bits = new ArrayList<>();
        for (int[] row : rows) {
            bits.add(v < 16 ? row[column] == v : (row[column] >> (v - 16) & 1) == 1);
        }
        return bits;
    }

    private int cost(String t) {
        String[] p = parts(t);
        switch (p[0]) {
            case "all": return 0;
            case "is": return lengths(result(now.rows, t)).size();
            case "not": return cost(p[1]);
            case "and":
            case "or":
                return cost(p[1]) + cost(p[2]) + lengths(result(now.rows, p[1])).size() + lengths(result(now.rows, p[2])).size();
            default:
        }
        int together = 0;
        for (int k = 16; k < 20; k++) {
            together += lengths(kind(now.rows, p[1].charAt(0) - 'a', k)).size();
        }
        return together;
    }

    private static int depth(String t) {
        String[] p = parts(t);
        switch (p[0]) {
            case "not": return 1 + depth(p[1]);
            case "and":
            case "or": return 1 + Math.max(depth(p[1]), depth(p[2]));
            default: return 1;
        }
    }

    private static int howMany(String t, boolean nots) {
        String[] p = parts(t);
        switch (p[0]) {
            case "not": return howMany(p[1], nots) + (nots ? 1 : 0);
            case "and":
            case "or": return howMany(p[1], nots) + howMany(p[2], nots);
            default: return nots ? 0 : 1;
        }
    }

    private List<Integer> rowsOf(int query) {
        List<Integer> found = new ArrayList<>();
        for (int i = 0; i < now.rows.size(); i++) {
            if (isSo(now.rows.get(i), queries.get(query))) {
                found.add(i);
            }
        }
        return found;
    }

    private boolean noQuery(int query) {
        return query < 0 || query >= queries.size();
    }

    private static boolean outside(int n, int first, int last) {
        return n < first || n > last;
    }

    // ---- the calls

    int add(int a, int b, int c, int d) {
        for (int v : new int[] {a, b, c, d}) {
            if (outside(v, 0, 15)) {
                return -2;
            }
        }
        if (now.rows.size() == 120) {
            return -4;
        }
        now.rows.add(new int[] {a, b, c, d});
        return now.rows.size() - 1;
    }

    int at(int row, int column) {
        return outside(row, 0, now.rows.size() - 1) || outside(column, 0, 3) ? -1 : now.rows.get(row)[column];
    }

    int mark() {
        if (now.marks.size() == 10) {
            return -4;
        }
        now.marks.add(now.rows.size());
        return now.marks.size() - 1;
    }

    int back(int mark) {
        if (outside(mark, 0, now.marks.size() - 1)) {
            return -1;
        }
        int gone = now.rows.size() - now.marks.get(mark);
        now.rows = new ArrayList<>(now.rows.subList(0, now.marks.get(mark)));
        now.marks = new ArrayList<>(now.marks.subList(0, mark + 1));
        return gone;
    }

    int runs(int column, int v) {
        return outside(column, 0, 3) || outside(v, 0, 19) ? -1 : lengths(kind(now.rows, column, v)).size();
    }

    int run(int column, int v, int k) {
        if (outside(column, 0, 3) || outside(v, 0, 19) || k < 0) {
            return -1;
        }
        List<Boolean> bits = kind(now.rows, column, v);
        List<Integer> lengths = lengths(bits);
        if (k >= lengths.size()) {
            return -5;
        }
        int start = 0;
        for (int i = 0; i < k; i++) {
            start += lengths.get(i);
        }
        return bits.get(start) ? -lengths.get(k) - 10 : lengths.get(k);
    }

    int feed(int sign) {
        if (outside(sign, 0, 127)) {
            return -2;
        }
        if (text.length() == 100) {
            return -4;
        }
        text += (char) sign;
        return text.length();
    }

    int query() {
        if (queries.size() == 8) {
            return -4;
        }
        String read = text;
        text = "";
        int fault = fault(read);
        if (fault >= 0) {
            return -10 - fault;
        }
        queries.add(read);
        return queries.size() - 1;
    }

    int of(int query, int what) {
        if (noQuery(query) || outside(what, 0, 7)) {
            return -1;
        }
        String t = queries.get(query);
        List<Integer> found = rowsOf(query);
        switch (what) {
            case 0: return found.size();
            case 1: return lengths(result(now.rows, t)).size();
            case 2: return cost(t);
            case 3: return found.isEmpty() ? -5 : found.get(0);
            case 4: return found.isEmpty() ? -5 : found.get(found.size() - 1);
            case 5: return howMany(t, false);
            case 6: return howMany(t, true);
            default: return depth(t);
        }
    }

    int row(int query, int k) {
        if (noQuery(query) || k < 0) {
            return -1;
        }
        List<Integer> found = rowsOf(query);
        return k < found.size() ? found.get(k) : -5;
    }

    private List<Integer> valuesOf(int query, int column) {
        List<Integer> values = new ArrayList<>();
        for (int row : rowsOf(query)) {
            values.add(now.rows.get(row)[column]);
        }
        values.sort(null);
        return values;
    }

    private static int times(List<Integer> values, int v) {
        int n = 0;
        for (int other : values) {
            n += other == v ? 1 : 0;
        }
        return n;
    }

    int group(int query, int column, int v) {
        if (noQuery(query) || outside(column, 0, 3) || outside(v, 0, 15)) {
            return -1;
        }
        return times(valuesOf(query, column), v);
    }

    int edge(int query, int column, int what) {
        if (noQuery(query) || outside(column, 0, 3) || outside(what, 0, 4)) {
            return -1;
        }
        List<Integer> values = valuesOf(query, column);
        if (what == 3) {
            return new TreeSet<>(values).size();
        }
        if (values.isEmpty()) {
            return -5;
        }
        switch (what) {
            case 0: return values.get(0);
            case 1: return values.get(values.size() - 1);
            case 2: return values.get((values.size() - 1) / 2);
            default:
        }
        int best = values.get(0);
        for (int v : values) {
            if (times(values, v) > times(values, best)) {
                best = v;
            }
        }
        return best;
    }

    int two(int query, int other, int what) {
        if (noQuery(query) || noQuery(other) || outside(what, 0, 4)) {
            return -1;
        }
        TreeSet<Integer> first = new TreeSet<>(rowsOf(query));
        TreeSet<Integer> second = new TreeSet<>(rowsOf(other));
        TreeSet<Integer> seen = new TreeSet<>(first);
        switch (what) {
            case 0:
                seen.retainAll(second);
                return seen.size();
            case 1:
                seen.addAll(second);
                return seen.size();
            case 2:
                seen.removeAll(second);
                return seen.size();
            case 3: return first.equals(second) ? 1 : 0;
            default: return second.containsAll(first) ? 1 : 0;
        }
    }

    int see(int row, boolean isIn) {
        if (row == -1) {
            now.seen.clear();
            return 0;
        }
        if (outside(row, 0, now.rows.size() - 1)) {
            return -1;
        }
        if (now.seen.size() == 6) {
            return -4;
        }
        now.seen.add(new int[] {row, isIn ? 1 : 0});
        return now.seen.size();
    }

    int bounds(int column, int what) {
        if (outside(column, 0, 3) || outside(what, 0, 1)) {
            return -1;
        }
        TreeSet<Integer> good = new TreeSet<>();
        for (int v = 0; v <= 15; v++) {
            boolean allSo = true;
            for (int[] s : now.seen) {
                boolean there = s[0] < now.rows.size();
                allSo &= there && (now.rows.get(s[0])[column] < v) == (s[1] == 1);
            }
            if (allSo) {
                good.add(v);
            }
        }
        return what == 0 ? good.size() : good.isEmpty() ? -5 : good.first();
    }

    private static long lowest(int above, int below, int part) {
        int by = 1;
        for (int n = 2; n <= below; n++) {
            if (above % n == 0 && below % n == 0) {
                by = n;
            }
        }
        return (part == 0 ? above : below) / by;
    }

    long odds(int query, int part) {
        if (noQuery(query) || outside(part, 0, 1) || now.rows.isEmpty()) {
            return NO;
        }
        return lowest(rowsOf(query).size(), now.rows.size(), part);
    }

    long mean(int query, int column, int part) {
        if (noQuery(query) || outside(column, 0, 3) || outside(part, 0, 1)) {
            return NO;
        }
        List<Integer> values = valuesOf(query, column);
        int sum = 0;
        for (int v : values) {
            sum += v;
        }
        return values.isEmpty() ? NO : lowest(sum, values.size(), part);
    }

    int plan(int what, int n) {
        if (what == -1) {
            now.plan.clear();
            return 0;
        }
        if (outside(what, 0, 2) || what == 1 && outside(n, 0, now.rows.size() - 1)
                || what == 2 && outside(n, 0, now.marks.size() - 1)) {
            return -1;
        }
        if (now.plan.size() == 10) {
            return -4;
        }
        now.plan.add(new int[] {what, n});
        return now.plan.size();
    }

    int ends(int query, int what) {
        if (noQuery(query) || outside(what, 0, 1)) {
            return -1;
        }
        List<int[]> rows = new ArrayList<>(now.rows);
        for (int[] p : now.plan) {
            if (p[0] == 0 && !rows.isEmpty()) {
                rows.remove(rows.size() - 1);
            }
            if (p[0] == 1 && p[1] < rows.size() && rows.size() < 120) {
                rows.add(rows.get(p[1]));
            }
            if (p[0] == 2 && p[1] < now.marks.size()) {
                while (rows.size() > now.marks.get(p[1])) {
                    rows.remove(rows.size() - 1);
                }
            }
        }
        List<Boolean> bits = result(rows, queries.get(query));
        return what == 1 ? lengths(bits).size() : (int) bits.stream().filter(b -> b).count();
    }

    int book(int query, int n) {
        if (query == -1) {
            now.book.clear();
            return 0;
        }
        if (noQuery(query)) {
            return -1;
        }
        if (outside(n, 0, 120)) {
            return -2;
        }
        if (now.book.size() == 8) {
            return -4;
        }
        now.book.add(new int[] {query, n});
        return now.book.size();
    }

    int looked() {
        for (int i = 0; i < now.book.size(); i++) {
            if (rowsOf(now.book.get(i)[0]).size() != now.book.get(i)[1]) {
                return i;
            }
        }
        return -5;
    }

    int judge(int query, int tape, int i) {
        if (noQuery(query) || outside(tape, 0, 5)) {
            return -1;
        }
        long[] told = tapes[tape];
        if (told != null && sorts[tape] != 4) {
            return -12;
        }
        List<Boolean> bits = result(now.rows, queries.get(query));
        for (int row = 0; row < bits.size(); row++) {
            long place = (long) i + row;
            if (told == null || place < 0 || place >= told.length || i < 0) {
                return 1000 + row;
            }
            if (bits.get(row) != (told[(int) place] == 1)) {
                return row;
            }
        }
        return -5;
    }

    int image() {
        image = now.copy();
        return now.rows.size();
    }

    int undo() {
        if (image == null) {
            return -3;
        }
        now = image.copy();
        return now.rows.size();
    }

    int taken(int query, int sort) {
        if (outside(sort, 0, 6)) {
            return -2;
        }
        if (noQuery(query)) {
            return -11;
        }
        String[] words = {"all", "is", "below", "in", "not", "and", "or"};
        return parts(queries.get(query))[0].equals(words[sort]) ? sort : -12;
    }

    int count(int what) {
        int[] counts = {now.rows.size(), now.marks.size(), queries.size(), now.seen.size(), now.plan.size(), now.book.size(), text.length()};
        return outside(what, 0, 6) ? -2 : counts[what];
    }

    int tape(int tape, int sort, int n) {
        if (outside(tape, 0, 5)) {
            return -1;
        }
        if (outside(sort, -1, 4) || sort != -1 && n > 60) {
            return -2;
        }
        if (sort != -1 && n < 0) {
            return -14;
        }
        tapes[tape] = sort == -1 ? null : new long[n];
        sorts[tape] = sort;
        return 1;
    }

    int item(int tape, int i, long v) {
        if (outside(tape, 0, 5)) {
            return -1;
        }
        if (tapes[tape] == null) {
            return -11;
        }
        if (outside(i, 0, tapes[tape].length - 1)) {
            return -13;
        }
        int[] left = {56, 48, 32, 0};
        tapes[tape][i] = sorts[tape] == 4 ? (v == 0 ? 0 : 1) : v << left[sorts[tape]] >> left[sorts[tape]];
        return 1;
    }

    long read(int tape, int i) {
        return outside(tape, 0, 5) || tapes[tape] == null || outside(i, 0, tapes[tape].length - 1) ? NO : tapes[tape][i];
    }

    int shift(int tape, int i, int other, int j, int n) {
        if (outside(tape, 0, 5) || outside(other, 0, 5)) {
            return -1;
        }
        if (tapes[tape] == null || tapes[other] == null) {
            return -11;
        }
        if (sorts[tape] != sorts[other]) {
            return -12;
        }
        if (n < 0 || i < 0 || j < 0 || (long) i + n > tapes[tape].length || (long) j + n > tapes[other].length) {
            return -13;
        }
        long[] before = Arrays.copyOfRange(tapes[tape], i, i + n);
        for (int k = 0; k < n; k++) {
            tapes[other][j + k] = before[k];
        }
        return n;
    }
}
