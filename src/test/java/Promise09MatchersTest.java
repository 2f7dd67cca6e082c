/** Each matcher alone, and several with signs between, as verify tells whether they hold. */
public final class Promise09MatchersTest {
    private static final String[] KINDS = {"null", "true", "7", "\"ab\"", "[7]", "{\"a\":7}"};

    public static void main(String[] args) {
        Check check = new Check();
        kinds(check);
        equality(check);
        sizes(check);
        parts(check);
        items(check);
        signs(check);
        check.finish();
    }

    /** Whether a rule for the whole value holds; what is further in does not count. */
    private static boolean holds(String matchers, String expected, String actual) {
        Desk desk = Desk.with(false, expected, "$:" + matchers);
        desk.verify(0, actual);
        return !desk.listing().startsWith("5$ ") && !desk.listing().equals("5$");
    }

    private static void kinds(Check check) {
        for (int e = 0; e < KINDS.length; e++) {
            for (int a = 0; a < KINDS.length; a++) {
                String pair = KINDS[e] + " and " + KINDS[a];
                check.due("t for " + pair, holds("t", KINDS[e], KINDS[a]), e == a);
                check.due("0 for " + pair, holds("0", KINDS[e], KINDS[a]), a == 0);
                check.due("i for " + pair, holds("i", KINDS[e], KINDS[a]), a == 2);
                check.due("~a for " + pair, holds("~a", KINDS[e], KINDS[a]), a == 3);
                check.due("/ab/ for " + pair, holds("/ab/", KINDS[e], KINDS[a]), a == 3);
                check.due(">0 for " + pair, holds(">0", KINDS[e], KINDS[a]), a == 4);
                check.due("<9 for " + pair, holds("<9", KINDS[e], KINDS[a]), a == 4);
                check.due("= for " + pair, holds("=", KINDS[e], KINDS[a]), e == a);
            }
        }
        check.due("t for true and false", holds("t", "true", "false"), true);
        check.due("t for [] and [1,\"a\"]", holds("t", "[]", "[1,\"a\"]"), true);
        check.due("i for -99999", holds("i", "null", "-99999"), true);
        check.due("~a for an empty string", holds("~a", "\"\"", "\"\""), false);
    }

    private static void equality(Check check) {
        check.due("= for other numbers", holds("=", "1", "2"), false);
        check.due("= in another order", holds("=", "{\"a\":1,\"b\":[2]}", "{\"b\":[2],\"a\":1}"), true);
        check.due("= for arrays in another order", holds("=", "[1,2]", "[2,1]"), false);
        check.due("= for one more member", holds("=", "{\"a\":1}", "{\"a\":1,\"b\":1}"), false);
        check.due("= for one member less", holds("=", "{\"a\":1,\"b\":1}", "{\"a\":1}"), false);
        check.due("= for another key", holds("=", "{\"a\":1}", "{\"b\":1}"), false);
        check.due("= deep down", holds("=", "[[[[[1]]]]]", "[[[[[2]]]]]"), false);
    }

    private static void sizes(Check check) {
        for (int size = 0; size <= 10; size++) {
            String array = size == 0 ? "[]" : "[" + "1,".repeat(size - 1) + "1]";
            for (int bound = 0; bound <= 9; bound++) {
                check.due(">" + bound + " for " + size, holds(">" + bound, "[]", array), size >= bound);
                check.due("<" + bound + " for " + size, holds("<" + bound, "[]", array), size <= bound);
            }
        }
    }

    private static void parts(Check check) {
        String[] within = {"a", "ab", "abc", "b", "bc", "c", "abcabd", "cabd", "bd", "d"};
        for (String part : within) {
            check.due("~" + part, holds("~" + part, "null", "\"abcabd\""), true);
        }
        String[] outside = {"e", "ac", "ba", "abda", "cd", "aa", "abcaba", "bcabda"};
        for (String part : outside) {
            check.due("~" + part, holds("~" + part, "null", "\"abcabd\""), false);
        }
        check.due("~aab in aaab", holds("~aab", "null", "\"aaab\""), true);
        check.due("~ab in a", holds("~ab", "null", "\"a\""), false);
        check.due("~l at the end", holds("~kl", "null", "\"abcdefghijkl\""), true);
    }

    private static void items(Check check) {
        String[] patterns = {"a", ".", "a*", "a+", ".*", ".+", "ab", "a.", ".b", "a*b", "a+b", "a*a", "a+a", "a*a*", "a+a+",
            "a*b*", ".*b", "b.*", ".*a.*", ".+a", "a.+", "a*.a", "ab*a", "a+b+", ".*.*b", "aa*b.", "a*b*a*b*", ".a.", "...",
            "a.*b+a*", "b*a+.*", "abababab", "a*b*a*b*a*b*a*b*", ".+.+.+.+"};
        for (String pattern : patterns) {
            for (int length = 0; length <= 6; length++) {
                for (int bits = 0; bits < 1 << length; bits++) {
                    String word = wordOf(bits, length);
                    check.due("/" + pattern + "/ for " + word, holds("/" + pattern + "/", "null", "\"" + word + "\""),
                            word.matches(pattern));
                }
            }
        }
        check.due("eight repeated", holds("/a*b*c*d*e*f*.*l+/", "null", "\"abcdefghijkl\""), true);
        check.due("twelve letters", holds("/.*/", "null", "\"zzzzzzzzzzzz\""), true);
        check.due("twelve letters and one more", holds("/.+.+.+.+.+.+.+z/", "null", "\"zzzzzzzzzzzz\""), true);
        check.due("twelve letters and another", holds("/.+.+.+.+.+.+.+y/", "null", "\"zzzzzzzzzzzz\""), false);
    }

    private static String wordOf(int bits, int length) {
        StringBuilder word = new StringBuilder();
        for (int i = 0; i < length; i++) {
            word.append((bits >> i & 1) == 0 ? 'a' : 'b');
        }
        return word.toString();
    }

    private static void signs(Check check) {
        check.due("both hold", holds("i&t", "1", "2"), true);
        check.due("only the first of two", holds("i&=", "1", "2"), false);
        check.due("only the last of two", holds("=&i", "1", "2"), false);
        check.due("all of four", holds("i&t&=&i", "1", "1"), true);
        check.due("three of four", holds("i&t&0&i", "1", "1"), false);
        check.due("the first or the last", holds("i|=", "1", "2"), true);
        check.due("the last or the first", holds("=|i", "1", "2"), true);
        check.due("none of two", holds("=|0", "1", "2"), false);
        check.due("one of four", holds("=|0|~a|i", "1", "2"), true);
        check.due("none of four", holds("=|0|~a|/a/", "1", "2"), false);
        check.due("from one bound to another", holds(">2&<3", "[]", "[1,1]"), true);
        check.due("below both", holds(">2&<3", "[]", "[1]"), false);
        check.due("above both", holds(">2&<3", "[]", "[1,1,1,1]"), false);
    }
}
