/** Promises 8 and 9: feed, query, and the FAULT of every kind of text. */
final class TextTest {
    private static final Due T = new Due("TextTest");

    public static void main(String[] args) {
        feed();
        query();
        full();
        faults();
        goodTexts();
        withinOthers();
        T.end();
    }

    private static void feed() {
        RunColumns x = new RunColumns();
        int[] wrong = {-1, 128, Integer.MIN_VALUE, Integer.MAX_VALUE};
        for (int w : wrong) {
            T.due("feed(" + w + ")", x.feed(w), -2);
        }
        T.due("BAD changes nothing", x.count(6), 0);
        T.due("feed(0)", x.feed(0), 1);
        T.due("feed(127)", x.feed(127), 2);
        for (int i = 3; i <= 100; i++) {
            T.due("feed " + i, x.feed('a'), i);
        }
        T.due("a 101st", x.feed('a'), -4);
        T.due("BAD is named ahead of FULL", x.feed(128), -2);
        T.due("bytes", x.count(6), 100);
        T.due("query: a byte 0 is no word", x.query(), -10);
        T.due("empty then, by a fault too", x.count(6), 0);
    }

    private static void query() {
        RunColumns x = new RunColumns();
        T.due("a first", Due.query(x, "all"), 0);
        T.due("empty then", x.count(6), 0);
        T.due("queries", x.count(2), 1);
        T.due("a fault", Due.query(x, "a iz 1"), -12);
        T.due("is no query", x.count(2), 1);
        T.due("a second", Due.query(x, "not all"), 1);
        T.due("a fault behind good parts", Due.query(x, "not all and (not all or not"), -37);
        T.due("a third", Due.query(x, "all"), 2);
        T.due("nothing stays of the parts: is, below, in, all", x.of(2, 5), 1);
        T.due("nor of the nots", x.of(2, 6), 0);
        T.due("the second is as it was", x.of(1, 6), 1);
    }

    private static void full() {
        RunColumns x = new RunColumns();
        for (int i = 0; i < 8; i++) {
            T.due("query " + i, Due.query(x, "d is " + i), i);
        }
        T.due("a ninth", Due.query(x, "all"), -4);
        T.due("the text stays", x.count(6), 3);
        Due.feed(x, "x");
        T.due("with a fault", x.query(), -4);
        T.due("it stays then, too", x.count(6), 4);
        T.due("queries", x.count(2), 8);
        T.due("the eighth is the eighth", x.taken(7, 1), 1);
    }

    private static void faults() {
        fault("", 0);
        fault(" ", 0);
        fault(" all", 0);
        fault("e is 1", 0);
        fault("A is 1", 0);
        fault("1", 0);
        fault("is 1", 0);
        fault("or all", 0);
        fault("and", 0);
        fault("al", 0);
        fault("alll", 0);
        fault("no", 0);
        fault("nota", 0);
        fault("ab is 1", 0);
        fault("az is 1", 0);
        fault("allz", 0);
        fault("bll", 0);
        fault("cot all", 0);
        fault("ais 1", 0);
        fault(")", 0);
        fault("a", 1);
        fault("a1", 1);
        fault("aX is 1", 1);
        fault("a\tis 1", 1);
        fault("a.is 1", 1);
        fault("a ", 2);
        fault("a  is 1", 2);
        fault("a i", 2);
        fault("a isx 1", 2);
        fault("a as 1", 2);
        fault("a an 1", 2);
        fault("a zelow 1", 2);
        fault("a or", 2);
        fault("a all", 2);
        fault("a 1", 2);
        fault("a is", 4);
        fault("a is1", 4);
        fault("a is ", 5);
        fault("a is  1", 5);
        fault("a is x", 5);
        fault("a is -1", 5);
        fault("a is 16", 6);
        fault("a is 161", 6);
        fault("a is 20", 6);
        fault("a is 99x", 6);
        fault("a is 015", 7);
        fault("a is 150", 7);
        fault("a is 1x", 6);
        fault("a is 1)", 6);
        fault("a is 1.", 6);
        fault("a is 1..2", 6);
        fault("a is 1 ", 7);
        fault("a is 1  or all", 7);
        fault("a is 1 nor all", 7);
        fault("a is 1 o", 7);
        fault("a is 1 an", 7);
        fault("a is 1 all", 7);
        fault("a is 1 )", 7);
        fault("a is 1 or", 9);
        fault("a is 1 or(all)", 9);
        fault("a is 1 or ", 10);
        fault("a is 1 or  all", 10);
        fault("a is 1 or or", 10);
        fault("a is 1 and", 10);
        fault("a is 1 and ", 11);
        fault("b below", 7);
        fault("b below ", 8);
        fault("b below 16", 9);
        fault("b belo 1", 2);
        fault("b belowx 1", 2);
        fault("c in", 4);
        fault("c in ", 5);
        fault("c in 1", 6);
        fault("c in 1 ", 6);
        fault("c in 12", 7);
        fault("c in 16..1", 6);
        fault("c in 123", 7);
        fault("c in 1.", 7);
        fault("c in 1.2", 7);
        fault("c in 1..", 8);
        fault("c in 1...", 8);
        fault("c in 1.. 2", 8);
        fault("c in 1..16", 9);
        fault("c in 1..2..3", 9);
        fault("c in 10..100", 11);
        fault("not", 3);
        fault("not(all)", 3);
        fault("not ", 4);
        fault("not  all", 4);
        fault("not or", 4);
        fault("(", 1);
        fault("()", 1);
        fault("( all)", 1);
        fault("(all", 4);
        fault("(all ", 5);
        fault("(all )", 5);
        fault("(all))", 5);
        fault("(all)all", 5);
        fault("(all) all", 6);
        fault("(all) ", 6);
        fault("all all", 4);
        fault("all ar all", 4);
        fault("all ond all", 4);
        fault("all orz all", 4);
        fault("all1", 3);
        fault("all(", 3);
        fault("all  ", 4);
        fault("(all or", 7);
        fault("all or all and", 14);
        fault("all and all or", 14);
        fault("all or all  and all", 11);
    }

    private static void goodTexts() {
        String[] good = {
            "all", "a is 0", "b is 15", "c is 07", "d is 00", "a below 0", "a below 15", "b in 0..15", "b in 09..2",
            "not all", "not not all", "(all)", "((all))", "not (all)", "(not all)", "all or all", "all and all",
            "all or not (all and a is 1) and b in 1..2 or c below 3", "(a is 1)or"
        };
        for (int i = 0; i < good.length; i++) {
            String text = good[i];
            int want = text.endsWith(")or") ? -18 : 0;
            T.due("query() of '" + text + "'", Due.query(new RunColumns(), text), want);
        }
        String longest = "all or all or all or all or all or all or all or all or all or all or all or all or all or a below 15";
        T.due("100 bytes", longest.length(), 101);
        T.due("100 bytes are read", Due.query(new RunColumns(), longest.substring(0, 100)), 0);
        RunColumns x = new RunColumns();
        Due.feed(x, longest);
        T.due("the 101st does not come", x.count(6), 100);
    }

    private static void withinOthers() {
        fault("not not not not not not not all", 24);
        T.due("six nots", Due.query(new RunColumns(), "not not not not not not all"), 0);
        fault("(((((((all)))))))", 6);
        T.due("six (", Due.query(new RunColumns(), "((((((all))))))"), 0);
        fault("not (not (not (not all)))", 15);
        T.due("three of each", Due.query(new RunColumns(), "not (not (not (all)))"), 0);
        fault("not (not (not ((all))))", 15);
        fault("((((((notall", 6);
        fault("((((((not all", 6);
        T.due("a not ahead is not around", Due.query(new RunColumns(), "not all and not not not not not not all"), 0);
        T.due("nor is a ( that is closed", Due.query(new RunColumns(), "((((((all)))))) or ((((((all))))))"), 0);
        fault("((((((all)))))) or (((((((all", 25);
    }

    private static void fault(String text, int where) {
        RunColumns x = new RunColumns();
        T.due("query() of '" + text + "'", Due.query(x, text), -10 - where);
        T.due("text is empty behind '" + text + "'", x.count(6), 0);
        T.due("no query by '" + text + "'", x.count(2), 0);
    }
}
