/** Objects in the states that tests need, and numbers that are none. */
final class Make {
    static final int MIN = Integer.MIN_VALUE, MAX = Integer.MAX_VALUE;
    static final long NO = Long.MIN_VALUE;

    /** The sizes at which the two longs of 120 bits begin, meet and end. */
    static final int[] SIZES = {0, 1, 2, 62, 63, 64, 65, 66, 118, 119, 120};

    private Make() {
    }

    /** Rows with these values in a, and b, c, d 0. */
    static RunColumns rows(int... values) {
        RunColumns x = new RunColumns();
        for (int v : values) {
            x.add(v, 0, 0, 0);
        }
        return x;
    }

    /** Rows with a i % 16, b i / 16, c 1 in every second row, d 15. */
    static RunColumns many(int n) {
        RunColumns x = new RunColumns();
        for (int i = 0; i < n; i++) {
            x.add(i % 16, i / 16, i % 2, 15);
        }
        return x;
    }

    /** Sixteen rows, with each value once: a rising, b falling. */
    static RunColumns sixteen() {
        RunColumns x = new RunColumns();
        for (int i = 0; i < 16; i++) {
            x.add(i, 15 - i, 0, 0);
        }
        return x;
    }

    /** The numbers just outside first .. last, and the outermost. */
    static int[] outside(int first, int last) {
        return new int[] {first - 1, last + 1, MIN, MAX};
    }
}
