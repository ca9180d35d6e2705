/** Counts the answers of one test class and tells each that is not the one that is due. */
final class Due {
    private final String name;
    private String sentence = "";
    private int passed = 0;
    private int failed = 0;

    Due(String name) {
        this.name = name;
    }

    /** What follows tests this sentence of ../shared/DOC.md, word by word as it stands there (SentencesTest looks). */
    void sentence(String words) {
        sentence = words;
    }

    void due(String call, long got, long want) {
        if (got == want) {
            passed++;
        } else {
            failed++;
            System.out.println(name + ": " + call + " answered " + got + ", due is " + want);
            if (!sentence.isEmpty()) {
                System.out.println("    by the sentence: " + sentence);
            }
        }
    }

    void due(String what, boolean holds) {
        due(what, holds ? 1 : 0, 1);
    }

    void end() {
        System.out.println(name + ": " + passed + " passed, " + failed + " failed");
        if (failed != 0 || passed == 0) {
            System.exit(1);
        }
    }

    /** Feeds a text, sign by sign. */
    static void feed(RunColumns x, String text) {
        for (int i = 0; i < text.length(); i++) {
            x.feed(text.charAt(i));
        }
    }

    /** Feeds a text and reads it: what query() answers. */
    static int query(RunColumns x, String text) {
        feed(x, text);
        return x.query();
    }
}
