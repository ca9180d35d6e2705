/** Each sentence on THE TEXT, how it is read and its FAULT that names a boundary: promises 8 and 9. */
final class TextEdgesTest {
    private static final Due T = new Due("TextEdgesTest");
    /** 100 bytes, each of them needed. */
    private static final String HUNDRED =
            "all or all or all or all or all or all or all or all or all or all or all or all or all or a below 1";

    public static void main(String[] args) {
        signs();
        hundredBytes();
        theTextIsEmptyThen();
        eightQueries();
        ors();
        ands();
        factors();
        values();
        words();
        oneBlankBehindNot();
        oneBlankByOrAndAnd();
        oneBlankByIsBelowIn();
        noBlankElse();
        sixWithin();
        wordsThatCanNotStand();
        noLetterAtAll();
        wherePlainBytesEnd();
        endsTooEarly();
        secondDigit();
        T.end();
    }

    private static void good(String text) {
        RunColumns x = new RunColumns();
        T.due("query() of '" + text + "'", Due.query(x, text), 0);
        T.due("queries by '" + text + "'", x.count(2), 1);
    }

    private static void fault(String text, int where) {
        RunColumns x = new RunColumns();
        T.due("query() of '" + text + "'", Due.query(x, text), -10 - where);
        T.due("queries by '" + text + "'", x.count(2), 0);
        T.due("bytes behind '" + text + "'", x.count(6), 0);
    }

    private static void signs() {
        T.sentence("A sign (0 .. 127) comes behind THE TEXT's: how many it has. BAD; FULL.");
        RunColumns x = new RunColumns();
        for (int w : Make.outside(0, 127)) {
            T.due("feed(" + w + ")", x.feed(w), -2);
            T.due("bytes", x.count(6), 0);
        }
        T.due("0", x.feed(0), 1);
        T.due("127", x.feed(127), 2);
        for (int i = 3; i <= 100; i++) {
            T.due("sign " + i, x.feed(i), i);
        }
        T.due("one more", x.feed(0), -4);
        for (int w : Make.outside(0, 127)) {
            T.due("BAD stands ahead of FULL: " + w, x.feed(w), -2);
        }
        x.query();
        T.due("there is room again", x.feed(0), 1);
    }

    private static void hundredBytes() {
        T.sentence("QUERIES 0 .. 7, as they come, are read from THE TEXT (bytes, 100 at most).");
        T.due("bytes", HUNDRED.length(), 100);
        RunColumns x = new RunColumns();
        Due.feed(x, HUNDRED);
        T.due("what comes behind 100 is refused", x.feed('6'), -4);
        T.due("so the text is good still", x.query(), 0);
        T.due("all of it is read", x.of(0, 5), 14);
        good(HUNDRED.substring(0, 87));
        fault(HUNDRED.substring(0, 99), 99);
        fault(HUNDRED.substring(0, 99) + "x", 99);
    }

    private static void theTextIsEmptyThen() {
        T.sentence("THE TEXT, which is empty then (by a FAULT, too), is a QUERY: its number; -10 less the FAULT.");
        RunColumns x = new RunColumns();
        T.due("an empty text", x.query(), -10);
        T.due("a good one", Due.query(x, "a is 1"), 0);
        T.due("bytes", x.count(6), 0);
        T.due("it is empty, so at fault", x.query(), -10);
        T.due("a fault at 5", Due.query(x, "a is x"), -15);
        T.due("bytes", x.count(6), 0);
        T.due("nothing of it stays", Due.query(x, "b is 2"), 1);
        T.due("nor of its parts", x.of(1, 5), 1);
        T.due("a fault behind eleven parts", Due.query(x, "all or all or all or all or all or all or x"), -52);
        T.due("nothing of these", Due.query(x, "not c below 3"), 2);
        T.due("leaves", x.of(2, 5), 1);
        T.due("nots", x.of(2, 6), 1);
        T.due("depth", x.of(2, 7), 2);
    }

    private static void eightQueries() {
        T.sentence("FULL: there are 8 (THE TEXT stays).");
        RunColumns x = new RunColumns();
        for (int i = 0; i < 8; i++) {
            T.due("query " + i, Due.query(x, i % 2 == 0 ? "all" : "not all"), i);
        }
        T.due("with an empty text", x.query(), -4);
        Due.feed(x, "a is ");
        T.due("with a fault", x.query(), -4);
        T.due("it stays", x.count(6), 5);
        T.due("the next sign comes behind it", x.feed('7'), 6);
        T.due("with a good text", x.query(), -4);
        T.due("it stays", x.count(6), 6);
        Due.feed(x, HUNDRED.substring(6));
        T.due("with 100 bytes", x.query(), -4);
        T.due("they stay", x.feed('a'), -4);
        T.due("queries", x.count(2), 8);
        for (int i = 0; i < 8; i++) {
            T.due("query " + i + " is as it was", x.taken(i, i % 2 == 0 ? 0 : 4), i % 2 == 0 ? 0 : 4);
        }
    }

    /** The costs tell which part stands ahead: rows b 0 1 2 .. 7, so that each b is has its own runs. */
    private static int cost(String text) {
        RunColumns x = new RunColumns();
        for (int i = 0; i < 8; i++) {
            x.add(0, i, 0, 0);
        }
        T.due("query() of '" + text + "'", Due.query(x, text), 0);
        return x.of(0, 2);
    }

    private static void ors() {
        T.sentence("E: T, or E or T (what stands ahead is the one part).");
        T.due("three", cost("b is 0 or b is 2 or b is 4"), (2 + 3 + 2 + 3) + 3 + 4 + 3);
        T.due("as if", cost("(b is 0 or b is 2) or b is 4"), (2 + 3 + 2 + 3) + 3 + 4 + 3);
        T.due("not as", cost("b is 0 or (b is 2 or b is 4)"), 2 + (3 + 3 + 3 + 3) + 2 + 5);
        T.due("four", cost("b is 0 or b is 2 or b is 4 or b is 6"), ((2 + 3 + 2 + 3) + 3 + 4 + 3) + 3 + 6 + 3);
        RunColumns x = new RunColumns();
        Due.query(x, "all or all or all");
        T.due("its depth", x.of(0, 7), 3);
        Due.query(x, "all or all or (all or all)");
        T.due("as deep on either side", x.of(1, 7), 3);
        fault("or all", 0);
        fault("all or", 6);
        fault("all or ", 7);
        fault("all or or all", 7);
    }

    private static void ands() {
        T.sentence("T: F, or T and F.");
        T.due("three", cost("not b is 0 and not b is 2 and not b is 4"), (2 + 3 + 2 + 3) + 3 + 4 + 3);
        T.due("not as", cost("not b is 0 and (not b is 2 and not b is 4)"), 2 + (3 + 3 + 3 + 3) + 2 + 5);
        T.due("an or stands not in an and", cost("b is 0 or b is 2 and b is 4"), 2 + (3 + 3 + 3 + 3) + 2 + 1);
        T.due("nor behind it", cost("b is 2 and b is 4 or b is 0"), (3 + 3 + 3 + 3) + 2 + 1 + 2);
        fault("and all", 0);
        fault("all and", 7);
        fault("all and ", 8);
        fault("all and and all", 8);
        fault("all or and all", 7);
        fault("all and or all", 8);
    }

    private static void factors() {
        T.sentence("F: not F; (E); all; a COLUMN, then is V, or below V, or in V..V.");
        String[] texts = {"not all", "(all)", "all", "a is 1", "b below 2", "c in 3..4", "d is 5", "(a is 1 or b is 2)",
            "not (c is 3)", "not not d is 4", "(not all)", "((all))"};
        for (String text : texts) {
            good(text);
            good(text + " and " + text);
            good(text + " or " + text);
            fault(text + text.charAt(0), text.endsWith("all") ? text.length() - 3 : text.length());
        }
        fault("", 0);
        fault("()", 1);
        fault("not", 3);
        fault("not or", 4);
        fault("not and", 4);
        fault("not is 1", 4);
        fault("(or", 1);
        fault("(is 1)", 1);
        fault("1 is a", 0);
        fault("is", 0);
        fault("below 1", 0);
        fault("in 1..2", 0);
        fault("a not 1", 2);
        fault("a is b", 5);
        fault("a is all", 5);
        fault("a in 1", 6);
        fault("a is 1..2", 6);
        fault("a below 1..2", 9);
        fault("a in 1..2..3", 9);
        fault("a in (1..2)", 5);
        fault("(all", 4);
        fault("all)", 3);
        fault("(all))", 5);
        fault("((all)", 6);
    }

    private static void values() {
        T.sentence("V: 1 or 2 digits, 0 .. 15.");
        for (int v = 0; v < 100; v++) {
            String two = "" + v / 10 + v % 10;
            if (v < 16) {
                good("a is " + two);
                good("b below " + two);
                good("c in " + two + ".." + two);
                T.due("value " + two, result("a is " + two), v);
            } else {
                fault("a is " + two, 6);
                fault("b below " + two, 9);
                fault("c in " + two + "..1", 6);
                fault("c in 1.." + two, 9);
            }
            if (v < 10) {
                good("a is " + v);
                good("b below " + v);
                good("c in " + v + ".." + v);
                T.due("value " + v, result("a is " + v), v);
            }
        }
        fault("a is 000", 7);
        fault("a is 015", 7);
        fault("a is 100", 7);
        fault("a is 150", 7);
        fault("b below 001", 10);
        fault("c in 001..2", 7);
        fault("c in 1..002", 10);
        fault("a is ", 5);
        fault("a is +1", 5);
        fault("a is -1", 5);
        fault("a is /", 5);
        fault("a is :", 5);
        fault("a is 1/", 6);
        fault("a is 1:", 6);
    }

    /** The first of rows 0 .. 15, with a 0 .. 15, that is in the result. */
    private static int result(String text) {
        RunColumns x = Make.sixteen();
        Due.query(x, text);
        return x.row(0, 0);
    }

    private static void words() {
        T.sentence("The words or, and, not, all, is, below, in, and COLUMNS (a, b, c, d) are WORDS: as many letters a .. z as stand there.");
        String[] columns = {"a", "b", "c", "d"};
        for (String column : columns) {
            good(column + " is 1");
            for (char letter = 'a'; letter <= 'z'; letter++) {
                fault(column + letter + " is 1", 0);
                fault("not " + column + letter + " is 1", 4);
            }
        }
        for (char letter = 'a'; letter <= 'z'; letter++) {
            fault("all" + letter, 0);
            fault("not" + letter + " all", 0);
            fault("a is" + letter + " 1", 2);
            fault("a below" + letter + " 1", 2);
            fault("a in" + letter + " 1..2", 2);
            fault("all or" + letter + " all", 4);
            fault("all and" + letter + " all", 4);
            fault(letter + "all", 0);
            if (letter > 'd') {
                fault(letter + " is 1", 0);
            }
        }
        // These stand just outside a .. z, so the word ends ahead of them.
        char[] others = {'`', '{', 'A', 'Z', '_', '0', (char) 0, (char) 127};
        for (char other : others) {
            fault("all" + other, 3);
            fault("not" + other + "all", 3);
            fault("a" + other + "is 1", 1);
            fault("a is" + other + "1", 4);
            fault("a below" + other + "1", 7);
            fault("a in" + other + "1..2", 4);
            fault("all or" + other + "all", 6);
            fault("all and" + other + "all", 7);
        }
        fault("ALL", 0);
        fault("A is 1", 0);
        fault("a IS 1", 2);
        fault("All", 0);
    }

    private static void oneBlankBehindNot() {
        T.sentence("One blank stands behind not;");
        good("not all");
        good("not (all)");
        fault("not(all)", 3);
        fault("not  all", 4);
        fault("not\tall", 3);
        fault("not", 3);
        fault("not ", 4);
        fault("(not(all))", 4);
        fault("not not(all)", 7);
    }

    private static void oneBlankByOrAndAnd() {
        T.sentence("ahead of or, and, and behind them;");
        fault("(all)or all", 5);
        fault("(all)and all", 5);
        fault("a is 1or all", 6);
        fault("a is 1and all", 6);
        fault("all  or all", 4);
        fault("all  and all", 4);
        fault("all or  all", 7);
        fault("all and  all", 8);
        fault("all or(all)", 6);
        fault("all and(all)", 7);
        fault("all\tor all", 3);
        fault("all or\tall", 6);
        fault("a is 1  and all", 7);
        fault("(all)  or all", 6);
    }

    private static void oneBlankByIsBelowIn() {
        T.sentence("on both sides of is, below, in;");
        String[] words = {"is", "below", "in"};
        for (String word : words) {
            int end = 2 + word.length();
            fault("a  " + word + " 1", 2);
            fault("a " + word + "1", end);
            fault("a " + word + "  1", end + 1);
            fault("a\t" + word + " 1", 1);
            fault("a " + word + "\t1", end);
            fault("a" + word + " 1", 0);
            fault("a " + word, end);
            fault("a " + word + " ", end + 1);
        }
    }

    private static void noBlankElse() {
        T.sentence("none else.");
        fault(" all", 0);
        fault(" ", 0);
        fault("all ", 4);
        fault("( all)", 1);
        fault("(all )", 5);
        fault("(all) ", 6);
        fault("a in 1 ..2", 6);
        fault("a in 1.. 2", 8);
        fault("a in 1. .2", 7);
        fault("a in 1..2 ", 10);
        fault("a is 1 ", 7);
        fault("a is 1 )", 7);
        fault("(a is 1 )", 8);
        fault("a is 1 2", 7);
    }

    private static void sixWithin() {
        T.sentence("A not or ( within 6 others is none.");
        String[] opens = {"not ", "("};
        for (int kinds = 0; kinds < 64; kinds++) {
            StringBuilder ahead = new StringBuilder();
            StringBuilder behind = new StringBuilder();
            for (int i = 0; i < 6; i++) {
                boolean isOpening = (kinds >> i) % 2 == 1;
                ahead.append(opens[isOpening ? 1 : 0]);
                behind.append(isOpening ? ")" : "");
            }
            good(ahead + "all" + behind);
            fault(ahead + "not all" + behind, ahead.length());
            fault(ahead + "(all)" + behind, ahead.length());
            fault(ahead + "not", ahead.length());
            fault(ahead + "(", ahead.length());
        }
        good("((((((all)))))) and not not not not not not all");
        good("not not not not (all or all and (all))");
        fault("not not not not not (all or all and (all))", 36);
        fault("(((((all or not not all)))))", 16);
        fault("(((((all and (not all))))))", 14);
    }

    private static void wordsThatCanNotStand() {
        T.sentence("The FAULT: the first byte of a WORD that can't stand there");
        fault("al", 0);
        fault("n", 0);
        fault("no", 0);
        fault("nott", 0);
        fault("orall", 0);
        fault("zzzz", 0);
        fault("abcd", 0);
        fault("a i", 2);
        fault("a iss 1", 2);
        fault("a belo 1", 2);
        fault("a or b", 2);
        fault("a and b", 2);
        fault("a all", 2);
        fault("a a is 1", 2);
        fault("all o", 4);
        fault("all ora", 4);
        fault("all an", 4);
        fault("all andy all", 4);
        fault("all not all", 4);
        fault("all is 1", 4);
        fault("all b", 4);
        fault("a is 1 i", 7);
        fault("a is 1 oor", 7);
        fault("a is 1 below 2", 7);
        fault("(all al", 5);
        fault("(al", 1);
        fault("not nott all", 4);
        fault("all or orr", 7);
        fault("all and alll", 8);
        fault("a in ab", 5);
        fault("a is 1or", 6);
        fault("a is 1abc", 6);
        fault("(all)abc", 5);
        fault("a in 1..abc", 8);
    }

    private static void noLetterAtAll() {
        T.sentence("(what stands there may be no letter at all);");
        fault("1", 0);
        fault(")", 0);
        fault("!", 0);
        fault(".", 0);
        fault("A", 0);
        fault("()", 1);
        fault("(1)", 1);
        fault("not 1", 4);
        fault("not )", 4);
        fault("a 1", 2);
        fault("a (", 2);
        fault("a ..", 2);
        fault("all 1", 4);
        fault("all (all)", 4);
        fault("all or 1", 7);
        fault("all or )", 7);
        fault("(all 1", 5);
        fault("all or " + (char) 0, 7);
        fault("" + (char) 127, 0);
    }

    private static void wherePlainBytesEnd() {
        T.sentence("else the place of the first byte with which none begins so");
        fault("a!is 1", 1);
        fault("a is 1!", 6);
        fault("a is 12!", 7);
        fault("all!", 3);
        fault("all(all)", 3);
        fault("all)", 3);
        fault("(all(", 4);
        fault("(all.", 4);
        fault("a in 1!", 6);
        fault("a in 1.!", 7);
        fault("a in 1...2", 8);
        fault("a in 1,2", 6);
        fault("a in 12..1.", 10);
        fault("a in 1..)", 8);
        fault("(a in 1..2", 10);
        fault("(a in 1..2!", 10);
        fault("a is 1(", 6);
        fault("(all)(all)", 5);
        fault("(all)1", 5);
        fault("not!all", 3);
    }

    private static void endsTooEarly() {
        T.sentence("(the end of THE TEXT, if it ends too early);");
        String[] texts = {"", "not", "not ", "(", "(all", "(all or", "(all or ", "all or", "all or ", "all and", "all and ",
            "a", "a ", "a is", "a is ", "a below", "a below ", "a in", "a in ", "a in 1", "a in 12", "a in 1.", "a in 1..",
            "all ", "a is 1 ", "(all) ", "((all)", "(a is 1", "not not", "not (", "(not all", "b", "c", "d"};
        for (String text : texts) {
            fault(text, text.length());
        }
        String[] ends = {" or", "d is ", "d is", "not ", "not", "all ", "c in 1.", "c in 1.."};
        for (String end : ends) {
            // These make 100 bytes, so that the fault lies behind the last that there is room for.
            String text = hundredWith(end);
            T.due("bytes of '" + text + "'", text.length(), 100);
            fault(text, 100);
        }
    }

    /** A text that is good up to the end told, of 100 bytes. */
    private static String hundredWith(String end) {
        boolean isBare = end.startsWith(" ");
        StringBuilder s = new StringBuilder();
        int left = 100 - end.length();
        while (left >= 27) {
            s.append("all or ");
            left -= 7;
        }
        String[] fillers = {"all", "a is 1", "a is 10", "not all", "b below 7", "b below 10", "c in 1..2", "c in 1..10",
            "c in 10..10", "not a is 1", "not not all", "not b below 1", "not b below 15", "not not not all", "(not not not all)"};
        for (String first : fillers) {
            for (String second : fillers) {
                String rest = isBare ? first + " or " + second : first + " or " + second + " or ";
                if (rest.length() == left) {
                    return s + rest + end;
                }
            }
        }
        return s + end;
    }

    private static void secondDigit() {
        T.sentence("of a V above 15 its second digit.");
        fault("a is 16", 6);
        fault("a is 20", 6);
        fault("a is 99", 6);
        fault("a is 16 or all", 6);
        fault("a is 160", 6);
        fault("a is 16x", 6);
        fault("a below 16", 9);
        fault("(a is 16)", 7);
        fault("not a is 16", 10);
        fault("a in 16..1", 6);
        fault("a in 1..16", 9);
        fault("a in 16..16", 6);
        fault("a in 15..16", 10);
        fault("a in 16", 6);
        fault("all and a is 1 or b is 40", 24);
        good("a is 15");
        good("a below 15");
        good("a in 15..15");
    }
}
