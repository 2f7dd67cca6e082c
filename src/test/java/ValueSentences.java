/** What the document says of values: how they are written, their kinds, and when they are equal. */
final class ValueSentences {
    private ValueSentences() {
    }

    static void test(Sentences due) {
        words(due);
        numbers(due);
        strings(due);
        arrays(due);
        objects(due);
        noBlanks(due);
        atMostFiveDeep(due);
        kinds(due);
        equality(due);
    }

    private static void isValue(Sentences due, String text, boolean wanted) {
        Desk expecting = new Desk();
        expecting.make(false);
        due.due(text + " is an expected body", !expecting.body(0, text).equals(Desk.ARGUMENT), wanted);
        due.due(text + " is an actual body", !Desk.with(false, "1").verify(0, text).equals(Desk.ARGUMENT), wanted);
    }

    private static void areValues(Sentences due, String... texts) {
        for (String text : texts) {
            isValue(due, text, true);
        }
    }

    private static void areNone(Sentences due, String... texts) {
        for (String text : texts) {
            isValue(due, text, false);
        }
    }

    private static boolean isLetter(char letter) {
        return letter >= 'a' && letter <= 'z';
    }

    private static boolean isDigit(char letter) {
        return letter >= '0' && letter <= '9';
    }

    private static void words(Sentences due) {
        due.by("VALUES: null, true, false,");
        String[] words = {"null", "true", "false"};
        areValues(due, words);
        for (String word : words) {
            for (int end = 0; end < word.length(); end++) {
                areNone(due, word.substring(0, end), word.substring(end + 1));
            }
            areNone(due, word + word, word + "e", "x" + word, word.toUpperCase(), word + ",", "-" + word);
        }
    }

    private static void numbers(Sentences due) {
        due.by("a NUMBER (a digit 1 .. 9 and up to four digits more, perhaps with - before them; or 0),");
        for (char c = 32; c < 127; c++) {
            isValue(due, String.valueOf(c), isDigit(c));
            isValue(due, "-" + c, isDigit(c) && c != '0');
            isValue(due, "1" + c, isDigit(c));
            isValue(due, "1234" + c, isDigit(c));
            isValue(due, "12345" + c, false);
            isValue(due, "-9999" + c, isDigit(c));
            isValue(due, "-99999" + c, false);
            isValue(due, "0" + c, false);
            isValue(due, c + "1", c == '-' || isDigit(c) && c != '0');
        }
        areValues(due, "0", "1", "9", "10", "100", "1000", "10000", "99999", "-1", "-9", "-10", "-10000", "-99999");
        areNone(due, "00", "01", "-0", "-00", "-01", "-", "--1", "-1-", "100000", "-100000", "012345", "00000");
    }

    private static void strings(Sentences due) {
        due.by("a STRING (0 to 12 letters a .. z between two \"),");
        for (int length = 0; length <= 14; length++) {
            isValue(due, "\"" + "q".repeat(length) + "\"", length <= 12);
            isValue(due, "[\"" + "q".repeat(length) + "\"]", length <= 12);
        }
        for (char c = 32; c < 127; c++) {
            isValue(due, "\"" + c + "\"", isLetter(c));
            isValue(due, "\"abcdefghijk" + c + "\"", isLetter(c));
            isValue(due, "\"ab" + c + "de\"", isLetter(c));
        }
        areNone(due, "\"", "\"a", "a\"", "a", "'a'", "\"a\"\"", "\"\"a\"", "\"abcdefghijkl", "\"a\"\"b\"");
    }

    private static void arrays(Sentences due) {
        due.by("an ARRAY ([, values with commas between, ]),");
        areValues(due, "[]", "[1]", "[1,2]", "[null,true,false,0,\"\",[],{}]", "[[],[]]", "[" + "1,".repeat(48) + "1]");
        areNone(due, "[", "]", "[[", "]]", "[1", "1]", "[,", "[,]", "[1,]", "[,1]", "[1,,2]", "[1;2]", "[1 2]", "[1[]]",
                "[]1", "1[]", "[][]", "[1}", "{1]", "(1)", "[x]", "[1,x]", "[x,1]", "[\"a\"\"b\"]", "[1,2", "[01]",
                "[-]", "[" + "1,".repeat(49) + "]", "[\"a\":1]");
    }

    private static void objects(Sentences due) {
        due.by("an OBJECT ({, members with commas between, }; a member is a KEY, one letter a .. z between two \", "
                + "then :, then a value; no key twice).");
        for (char c = 32; c < 127; c++) {
            isValue(due, "{\"" + c + "\":1}", isLetter(c));
            isValue(due, "{\"a" + c + "\":1}", false);
            isValue(due, "{\"a\"" + c + "1}", c == ':');
            isValue(due, "{\"a\":1" + c + "\"b\":2}", c == ',');
        }
        areValues(due, "{}", "{\"a\":1}", "{\"a\":1,\"b\":2}", "{\"z\":{},\"a\":[]}", "{\"a\":{\"a\":{\"a\":1}}}",
                "[{\"a\":1},{\"a\":1}]", "{\"a\":{\"b\":1},\"b\":{\"a\":1}}", "{\"a\":\"a\"}",
                "{\"a\":1,\"b\":1,\"c\":1,\"d\":1,\"e\":1,\"f\":1,\"g\":1,"
                        + "\"h\":1,\"i\":1,\"j\":1,\"k\":1,\"l\":1,\"m\":1,\"n\":1}");
        areNone(due, "{", "}", "{1}", "{\"a\"}", "{\"a\":}", "{\"a\":1", "{\"a\":1,}", "{,\"a\":1}",
                "{\"a\":1,,\"b\":2}", "{\"\":1}", "{a:1}", "{\"a:1}", "{a\":1}", "{\"a\"1}", "{\"a\"::1}", "{\"a\":x}",
                "{\"a\":1]", "{\"a\":1}}", "{{}}", "{:1}", "{\"a\":1:2}", "{\"a\":1,2}", "{null:1}", "{1:1}");
        areNone(due, "{\"a\":1,\"a\":1}", "{\"a\":1,\"a\":2}", "{\"a\":1,\"b\":2,\"a\":3}", "{\"b\":1,\"a\":2,\"a\":3}",
                "{\"a\":1,\"b\":2,\"c\":3,\"d\":4,\"c\":5}", "[{\"a\":{\"z\":1,\"z\":1}}]", "{\"a\":{},\"a\":[]}");
    }

    private static void noBlanks(Sentences due) {
        due.by("No blanks.");
        String value = "{\"a\":[-12,\"ab\",null],\"b\":{}}";
        isValue(due, value, true);
        for (int at = 0; at <= value.length(); at++) {
            isValue(due, value.substring(0, at) + " " + value.substring(at), false);
        }
    }

    private static void atMostFiveDeep(Sentences due) {
        due.by("Arrays and objects are at most five deep in one another.");
        for (int depth = 1; depth <= 7; depth++) {
            for (int kinds = 0; kinds < 1 << depth; kinds++) {
                isValue(due, nested(depth, kinds, ""), depth <= 5);
                isValue(due, nested(depth, kinds, "1"), depth <= 5);
            }
        }
        areValues(due, "[1,[1,[1,[1,[1]]]]]", "[[[[[],[]],[]],[]],[]]", "[[[[[1,2,3]]]],[[[[4]]]]]",
                "[[],[],[],[],[],[],[]]");
        areNone(due, "[1,[1,[1,[1,[1,[]]]]]]", "[[[[[]]]],[[[[[]]]]]]", "{\"a\":1,\"b\":[[[[[]]]]]}", "[".repeat(100));
    }

    /** Arrays and objects in one another, an object where the bit is 1. */
    private static String nested(int depth, int kinds, String inmost) {
        String value = inmost;
        for (int i = 0; i < depth; i++) {
            boolean object = (kinds >> i & 1) == 1;
            value = object ? value.isEmpty() ? "{}" : "{\"a\":" + value + "}" : "[" + value + "]";
        }
        return value;
    }

    private static void kinds(Sentences due) {
        due.by("The KINDS are null, boolean, number, string, array, object.");
        String[][] kinds = {{"null"}, {"true", "false"}, {"0", "-7", "99999"}, {"\"\"", "\"null\"", "\"a\""},
            {"[]", "[[]]"}, {"{}", "{\"a\":1}"}};
        for (int e = 0; e < kinds.length; e++) {
            for (int a = 0; a < kinds.length; a++) {
                for (String expected : kinds[e]) {
                    for (String actual : kinds[a]) {
                        boolean mismatch = Desk.compare(false, expected, actual, "$:t", "$.a:t").equals("5$");
                        due.due(actual + " is not of the kind of " + expected, mismatch, e != a);
                    }
                }
            }
        }
    }

    private static void equality(Sentences due) {
        due.by("Two values are EQUAL if they are of the same kind and the same, arrays element by element, objects "
                + "with the same keys and equal members, in whatever order.");
        String[] different = {"null", "true", "false", "0", "1", "-1", "10", "\"\"", "\"a\"", "\"b\"", "\"ab\"",
            "\"null\"", "\"true\"", "[]", "[0]", "[1]", "[1,2]", "[2,1]", "[1,2,3]", "[1,1]", "[[]]", "[{}]", "[[1],2]",
            "[1,[2]]", "{}", "{\"a\":1}", "{\"b\":1}", "{\"a\":2}", "{\"a\":null}", "{\"a\":1,\"b\":2}",
            "{\"a\":2,\"b\":1}", "{\"a\":1,\"c\":2}", "{\"a\":[]}", "{\"a\":{}}", "[[[[[1]]]]]", "[[[[[2]]]]]",
            "[[[[[1,1]]]]]", "[[[[[]]]]]", "[[[[{}]]]]"};
        for (String one : different) {
            for (String other : different) {
                areEqual(due, one, other, one.equals(other));
            }
        }
        areEqual(due, "{\"a\":1,\"b\":2,\"c\":3}", "{\"c\":3,\"a\":1,\"b\":2}", true);
        areEqual(due, "{\"a\":1,\"b\":2,\"c\":3}", "{\"c\":3,\"b\":1,\"a\":2}", false);
        areEqual(due, "[{\"a\":{\"b\":1,\"c\":[]}}]", "[{\"a\":{\"c\":[],\"b\":1}}]", true);
        areEqual(due, "[{\"a\":{\"b\":1,\"c\":[]}}]", "[{\"a\":{\"c\":{},\"b\":1}}]", false);
        areEqual(due, "[[[[{\"a\":1,\"b\":2}]]]]", "[[[[{\"b\":2,\"a\":1}]]]]", true);
        areEqual(due, "[[[[{\"a\":1,\"b\":2}]]]]", "[[[[{\"b\":2,\"a\":0}]]]]", false);
    }

    private static void areEqual(Sentences due, String one, String other, boolean wanted) {
        String both = one + " and " + other;
        due.due("a body stays, of " + both, !Desk.with(false, one).body(0, other).equals(Desk.STATE), wanted);
        due.due("= holds for " + both, !Desk.compare(false, one, other, "$:=").startsWith("5$"), wanted);
    }
}
