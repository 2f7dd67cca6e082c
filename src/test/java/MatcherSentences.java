/** What the document says of the matchers. */
final class MatcherSentences {
    private static final String[] KINDS = {"null", "true", "7", "\"ab\"", "[7]", "{\"a\":7}"};

    private MatcherSentences() {
    }

    static void test(Sentences due) {
        sameKind(due);
        equal(due);
        isNull(due);
        isNumber(due);
        atLeast(due);
        atMost(due);
        sideBySide(due);
        items(due);
    }

    private static void isMatcher(Sentences due, String text, boolean wanted) {
        Desk desk = new Desk();
        desk.make(false);
        due.due("rule of " + text, desk.rule(0, "$:" + text), wanted ? 0 : Desk.ARGUMENT);
    }

    /** Whether a rule for the whole value holds; what is further in does not count. */
    private static boolean holds(String matcher, String expected, String actual) {
        String listing = Desk.compare(false, expected, actual, "$:" + matcher);
        return !listing.equals("5$");
    }

    /** A matcher that looks at the actual value alone holds for one kind of them, whatever is expected. */
    private static void holdsForKind(Sentences due, String matcher, String kind) {
        for (String expected : KINDS) {
            for (String actual : KINDS) {
                due.due(matcher + " for " + actual + ", not " + expected, holds(matcher, expected, actual),
                        actual.equals(kind));
            }
        }
    }

    private static void sameKind(Sentences due) {
        due.by("MATCHERS, E being the expected value and A the actual one at the same place: t: A is of E's kind.");
        String[] others = {"null", "false", "-99999", "\"\"", "[]", "{}"};
        for (int e = 0; e < KINDS.length; e++) {
            for (int a = 0; a < KINDS.length; a++) {
                due.due("t for " + KINDS[e] + " and " + others[a], holds("t", KINDS[e], others[a]), e == a);
                due.due("t for " + others[e] + " and " + KINDS[a], holds("t", others[e], KINDS[a]), e == a);
            }
        }
        due.due("t further in", Desk.compare(true, "{\"a\":1,\"b\":1}", "{\"a\":2,\"b\":null}", "$.*:t"), "5$.b");
    }

    private static void equal(Sentences due) {
        due.by("=: A and E are equal.");
        for (String expected : KINDS) {
            for (String actual : KINDS) {
                due.due("= for " + expected + " and " + actual, holds("=", expected, actual), expected.equals(actual));
            }
        }
        due.due("= for 7 and 70", holds("=", "7", "70"), false);
        due.due("= for objects in another order", holds("=", "{\"a\":1,\"b\":2}", "{\"b\":2,\"a\":1}"), true);
        due.due("= for arrays in another order", holds("=", "[1,2]", "[2,1]"), false);
        due.due("= for an array and a longer one", holds("=", "[1]", "[1,1]"), false);
        due.due("= for an array and a shorter one", holds("=", "[1,1]", "[1]"), false);
        due.due("= for [] and []", holds("=", "[]", "[]"), true);
        due.due("= for [] and {}", holds("=", "[]", "{}"), false);
    }

    private static void isNull(Sentences due) {
        due.by("0: A is null.");
        holdsForKind(due, "0", "null");
        due.due("0 for 0", holds("0", "0", "0"), false);
        due.due("0 for an empty string", holds("0", "\"\"", "\"\""), false);
        due.due("0 for false", holds("0", "false", "false"), false);
        due.due("0 for []", holds("0", "[]", "[]"), false);
    }

    private static void isNumber(Sentences due) {
        due.by("i: A is a number.");
        holdsForKind(due, "i", "7");
        due.due("i for 0", holds("i", "null", "0"), true);
        due.due("i for -99999", holds("i", "null", "-99999"), true);
        due.due("i for 99999", holds("i", "null", "99999"), true);
    }

    private static String arrayOf(int size) {
        return size == 0 ? "[]" : "[" + "1,".repeat(size - 1) + "1]";
    }

    private static void isDigitBehind(Sentences due, String sign) {
        isMatcher(due, sign, false);
        for (char c = 32; c < 127; c++) {
            boolean digit = c >= '0' && c <= '9';
            isMatcher(due, sign + c, digit);
            isMatcher(due, sign + "1" + c, false);
            isMatcher(due, sign + c + "&t", digit);
        }
    }

    private static void atLeast(Sentences due) {
        due.by("> and a digit: A is an array with at least so many elements.");
        isDigitBehind(due, ">");
        holdsForKind(due, ">0", "[7]");
        for (int digit = 0; digit <= 9; digit++) {
            for (int size = 0; size <= 11; size++) {
                due.due(">" + digit + " for " + size, holds(">" + digit, "[]", arrayOf(size)), size >= digit);
            }
            due.due(">" + digit + " for 49", holds(">" + digit, "[]", arrayOf(49)), true);
        }
        due.due(">1 for an object with two members", holds(">1", "{}", "{\"a\":1,\"b\":2}"), false);
        due.due(">1 for two letters", holds(">1", "\"\"", "\"ab\""), false);
    }

    private static void atMost(Sentences due) {
        due.by("< and a digit: with at most so many.");
        isDigitBehind(due, "<");
        holdsForKind(due, "<9", "[7]");
        for (int digit = 0; digit <= 9; digit++) {
            for (int size = 0; size <= 11; size++) {
                due.due("<" + digit + " for " + size, holds("<" + digit, "[]", arrayOf(size)), size <= digit);
            }
            due.due("<" + digit + " for 49", holds("<" + digit, "[]", arrayOf(49)), false);
        }
        due.due("<1 for an object", holds("<1", "{}", "{}"), false);
        due.due("<1 for an empty string", holds("<1", "\"\"", "\"\""), false);
        due.due("<1 for null", holds("<1", "null", "null"), false);
    }

    private static void sideBySide(Sentences due) {
        due.by("~ and 1 to 6 letters: A is a string, and these letters stand side by side in it.");
        for (int length = 0; length <= 8; length++) {
            isMatcher(due, "~" + "a".repeat(length), length >= 1 && length <= 6);
            isMatcher(due, "~" + "a".repeat(length) + "&t", length >= 1 && length <= 6);
        }
        for (char c = 32; c < 127; c++) {
            isMatcher(due, "~" + c, c >= 'a' && c <= 'z');
            isMatcher(due, "~abcde" + c, c >= 'a' && c <= 'z');
        }
        holdsForKind(due, "~a", "\"ab\"");
        holdsForKind(due, "~ab", "\"ab\"");
        String word = "abcdefghijkl";
        for (int from = 0; from < word.length(); from++) {
            for (int until = from + 1; until <= Math.min(word.length(), from + 6); until++) {
                String part = word.substring(from, until);
                due.due("~" + part, holds("~" + part, "null", "\"" + word + "\""), true);
                due.due("~" + part + " in itself", holds("~" + part, "null", "\"" + part + "\""), true);
                due.due("~" + part + " in less", holds("~" + part, "null", "\"" + part.substring(1) + "\""), false);
                String other = part.substring(0, part.length() - 1) + "z";
                due.due("~" + other, holds("~" + other, "null", "\"" + word + "\""), false);
                String different = "z" + part.substring(1);
                due.due("~" + different, holds("~" + different, "null", "\"" + word + "\""), false);
            }
        }
        due.due("~ac, not side by side", holds("~ac", "null", "\"abc\""), false);
        due.due("~ba, in another order", holds("~ba", "null", "\"abb\""), false);
        due.due("~aab behind another a", holds("~aab", "null", "\"aaab\""), true);
        due.due("~a in an empty string", holds("~a", "null", "\"\""), false);
    }

    private static void items(Sentences due) {
        due.by("/ and 1 to 8 ITEMS and /: A is a string that is as these items say, from its beginning to its end: "
                + "an item is a letter (it alone) or a period (any letter), and perhaps * (any number of them, also "
                + "none) or + (at least one).");
        String[] kinds = {"a", "z", ".", "a*", ".*", "a+", ".+"};
        for (int count = 0; count <= 10; count++) {
            for (String item : kinds) {
                isMatcher(due, "/" + item.repeat(count) + "/", count >= 1 && count <= 8);
                isMatcher(due, "/" + item.repeat(count), false);
            }
        }
        for (char c = 32; c < 127; c++) {
            boolean item = c >= 'a' && c <= 'z' || c == '.';
            isMatcher(due, "/" + c + "/", item);
            isMatcher(due, "/a" + c + "/", item || c == '*' || c == '+');
            isMatcher(due, "/a*" + c + "/", item);
            isMatcher(due, "/.+" + c + "/", item);
            isMatcher(due, "/a" + c, c == '/');
            isMatcher(due, "/a/" + c, false);
        }
        holdsForKind(due, "/.*/", "\"ab\"");
        holdsForKind(due, "/ab/", "\"ab\"");
        alone(due);
        repeated(due);
        likeAllRegularExpressions(due);
    }

    private static void fullMatch(Sentences due, String items, String word, boolean wanted) {
        due.due("/" + items + "/ for \"" + word + "\"", holds("/" + items + "/", "null", "\"" + word + "\""), wanted);
    }

    private static void alone(Sentences due) {
        for (char c = 'a'; c <= 'z'; c++) {
            fullMatch(due, "m", String.valueOf(c), c == 'm');
            fullMatch(due, ".", String.valueOf(c), true);
            fullMatch(due, String.valueOf(c), "m", c == 'm');
        }
        fullMatch(due, "ab", "ab", true);
        fullMatch(due, "ab", "abb", false);
        fullMatch(due, "ab", "aab", false);
        fullMatch(due, "ab", "a", false);
        fullMatch(due, "ab", "b", false);
        fullMatch(due, "ab", "", false);
        fullMatch(due, ".", "", false);
        fullMatch(due, "..", "a", false);
        fullMatch(due, "........", "abcdefgh", true);
        fullMatch(due, "........", "abcdefghi", false);
    }

    private static void repeated(Sentences due) {
        for (int length = 0; length <= 12; length++) {
            String word = "a".repeat(length);
            fullMatch(due, "a*", word, true);
            fullMatch(due, "a+", word, length >= 1);
            fullMatch(due, ".*", word, true);
            fullMatch(due, ".+", word, length >= 1);
            fullMatch(due, "b*", word, length == 0);
            fullMatch(due, "b+", word, false);
            fullMatch(due, "a*a", word, length >= 1);
            fullMatch(due, "a+a", word, length >= 2);
            fullMatch(due, "a+a+a+a+a+a+a+a+", word, length >= 8);
            fullMatch(due, "a*a*a*a*a*a*a*a*", word, true);
            fullMatch(due, "aaaaaaaa*", word, length >= 7);
        }
        fullMatch(due, ".*", "abcdefghijkl", true);
        fullMatch(due, "a.*l", "abcdefghijkl", true);
        fullMatch(due, "a.*k", "abcdefghijkl", false);
        fullMatch(due, "b.*l", "abcdefghijkl", false);
    }

    /** All items of two kinds of letters on all short words of these, as Java's own expressions tell. */
    private static void likeAllRegularExpressions(Sentences due) {
        String[] items = {"a", "b", ".", "a*", "b*", ".*", "a+", "b+", ".+"};
        String[] words = {"", "a", "b", "aa", "ab", "ba", "bb", "aab", "aba", "abb", "bab", "abab", "bbaa"};
        for (String first : items) {
            for (String second : items) {
                for (String third : items) {
                    String row = first + second + third;
                    for (String word : words) {
                        fullMatch(due, row, word, word.matches(row));
                    }
                }
            }
        }
    }
}
