/** What the document says of how bodies are compared. */
final class ComparisonSentences {
    private ComparisonSentences() {
    }

    static void test(Sentences due) {
        withoutARule(due);
        aRuleThatDoesNotHold(due);
        thatIsAll(due);
        whichRuleIsLoose(due);
        looseArrays(due);
        otherArrays(due);
        objects(due);
    }

    private static void lists(Sentences due, String expected, String actual, String listing, String... rules) {
        String what = expected + " and " + actual + " with " + String.join(" ", rules);
        due.due(what, Desk.compare(false, expected, actual, rules), listing);
    }

    private static void listsStrictly(Sentences due, String expected, String actual, String listing, String... rules) {
        String what = expected + " and " + actual + ", strict, with " + String.join(" ", rules);
        due.due(what, Desk.compare(true, expected, actual, rules), listing);
    }

    private static void withoutARule(Sentences due) {
        due.by("TO COMPARE at a place: if no rule is selected, kinds must be the same, and the values too if they "
                + "are no arrays or objects, otherwise there is a mismatch VALUE (1) there.");
        String[] values = {"null", "true", "false", "0", "1", "-1", "10", "\"\"", "\"a\"", "\"null\"", "[]", "{}"};
        for (String expected : values) {
            for (String actual : values) {
                lists(due, expected, actual, expected.equals(actual) ? "" : "1$");
                listsStrictly(due, "[0,{\"a\":" + expected + "}]", "[0,{\"a\":" + actual + "}]",
                        expected.equals(actual) ? "" : "1$[1].a");
            }
        }
        lists(due, "[]", "[1]", "2$");
        lists(due, "{}", "{\"a\":1}", "");
        lists(due, "1", "2", "1$", "$.a:t", "$[0]:t");
    }

    private static void aRuleThatDoesNotHold(Sentences due) {
        due.by("If a rule is selected and does not hold, there is a mismatch RULE (5) there.");
        lists(due, "1", "1", "5$", "$:0");
        lists(due, "1", "null", "", "$:0");
        lists(due, "1", "2", "", "$:i");
        lists(due, "[1,2]", "[1,2]", "5$[1]", "$[1]:0");
        lists(due, "[[[[[1]]]]]", "[[[[[1]]]]]", "5$[0][0][0][0][0]", "$[0][0][0][0][0]:0");
        lists(due, "{\"a\":1,\"b\":1}", "{\"a\":1,\"b\":1}", "5$.a 5$.b", "$.*:0");
        lists(due, "{\"a\":1,\"b\":1}", "{\"a\":1,\"b\":1}", "5$.a", "$.*:0", "$.b:i");
    }

    private static void thatIsAll(Sentences due) {
        due.by("In both cases that is all.");
        lists(due, "[1,[2,3]]", "[9,{\"a\":9}]", "1$[0] 1$[1]");
        listsStrictly(due, "{\"a\":{\"b\":1}}", "{\"a\":[1,2]}", "1$.a");
        lists(due, "[1,2]", "[3,4,5]", "5$", "$:0");
        listsStrictly(due, "{\"a\":1,\"b\":1}", "{\"a\":2,\"c\":1}", "5$", "$:0");
        lists(due, "[[1,2],7]", "[[3],8]", "5$[0] 1$[1]", "$[0]:0");
        lists(due, "[[1,2],7]", "[[3],8]", "2$[0] 1$[0][0] 1$[1]");
    }

    private static void whichRuleIsLoose(Sentences due) {
        due.by("Otherwise, if both are arrays: the rule is LOOSE if it has one of the matchers t > <.");
        // The elements have a rule of their own, so that only the length can be a mismatch.
        String[] loose = {"t", ">0", ">2", "<9", "<2", "t&>1", ">1&<3", "=|t", "t|=", "0|i|<9", "=|0|>9|t",
            "~a|/a/|>1"};
        for (String matchers : loose) {
            lists(due, "[1]", "[2,3]", "", "$:" + matchers, "$[*]:i");
        }
        lists(due, "[1]", "[1]", "5$[0]", "$:=", "$[0]:0");
        lists(due, "[1,2]", "[1,2]", "5$[1]", "$:=|0|i|~a|/a/", "$[1]:0");
        lists(due, "[1]", "[2,3]", "5$", "$:=|0|i|~a|/a/", "$[*]:i");
        lists(due, "{\"a\":1}", "[1,2]", "", "$:>2");
        lists(due, "1", "[1,2]", "", "$:<2");
        lists(due, "[1]", "null", "", "$:t|0");
        lists(due, "[[1],[1]]", "[[2,3],[2,3]]", "2$[1] 1$[1][0]", "$[0]:t", "$[0][*]:i");
    }

    private static void looseArrays(Sentences due) {
        due.by("If it is loose, each actual element i is compared with the expected element of that number, or the "
                + "last one, if there are not so many (with none, if there are no expected ones: nothing happens).");
        lists(due, "[1,2,3]", "[1,2,3]", "", "$:>0", "$[*]:=");
        lists(due, "[1,2,3]", "[3,2,1]", "5$[0] 5$[2]", "$:>0", "$[*]:=");
        lists(due, "[1,2,3]", "[1,2]", "", "$:>0", "$[*]:=");
        lists(due, "[1,2,3]", "[2]", "5$[0]", "$:>0", "$[*]:=");
        lists(due, "[1,2,3]", "[]", "", "$:>0", "$[*]:=");
        lists(due, "[1,2,3]", "[1,2,3,3]", "", "$:>0", "$[*]:=");
        lists(due, "[1,2,3]", "[1,2,3,2,3,1]", "5$[3] 5$[5]", "$:>0", "$[*]:=");
        lists(due, "[1]", "[1,1,2,1]", "5$[2]", "$:>0", "$[*]:=");
        lists(due, "[]", "[1]", "", "$:>0", "$[*]:0");
        lists(due, "[]", "[1,2,3]", "", "$:t");
        lists(due, "[]", "[]", "", "$:t", "$[*]:0");
        lists(due, "[[]]", "[[1],[2]]", "", "$:t");
        lists(due, "[{\"a\":1}]", "[{\"a\":1},{},{\"a\":2}]", "3$[1].a 5$[2].a", "$:t", "$[*].a:=");
        lists(due, "[1]", "[" + "1,".repeat(48) + "1]", "", "$:t");
        lists(due, "[1]", "[" + "1,".repeat(47) + "null]", "5$[47]", "$:t");
    }

    private static void otherArrays(Sentences due) {
        due.by("If it is not, or there is no rule: if they have different lengths, a mismatch LENGTH (2) there; then "
                + "the elements that both have are compared.");
        String[] arrays = {"[]", "[1]", "[1,2]", "[1,2,3]"};
        for (int e = 0; e < arrays.length; e++) {
            for (int a = 0; a < arrays.length; a++) {
                lists(due, arrays[e], arrays[a], e == a ? "" : "2$");
                lists(due, arrays[e], arrays[a], e == a ? "" : "5$", "$:=");
            }
        }
        lists(due, "[1,2,3]", "[9,2]", "2$ 1$[0]");
        lists(due, "[1,2]", "[1,9,9]", "2$ 1$[1]");
        lists(due, "[1,2]", "[8,9]", "1$[0] 1$[1]");
        lists(due, "[[1],[2,3]]", "[[],[9,3],4]", "2$ 2$[0] 1$[1][0]");
        lists(due, "[1,2]", "[1,2]", "5$[1]", "$:=", "$[1]:0");
        String row = "[" + "1,".repeat(48);
        lists(due, row + "1]", row + "2]", "1$[48]");
        lists(due, row + "1]", "[" + "1,".repeat(47) + "1]", "2$");
    }

    private static void objects(Sentences due) {
        due.by("If both are objects: for each member of E, in order: if A has that key, the members are compared, "
                + "otherwise there is a mismatch MISSING (3) at its place; then, if the interaction is STRICT, for "
                + "each member of A, in order, whose key E has not, a mismatch UNEXPECTED (4) at its place.");
        lists(due, "{}", "{}", "");
        listsStrictly(due, "{}", "{}", "");
        lists(due, "{\"a\":1}", "{}", "3$.a");
        listsStrictly(due, "{\"a\":1}", "{}", "3$.a");
        lists(due, "{}", "{\"a\":1}", "");
        listsStrictly(due, "{}", "{\"a\":1}", "4$.a");
        lists(due, "{\"c\":1,\"b\":2,\"a\":3}", "{\"a\":9,\"b\":9,\"z\":0}", "3$.c 1$.b 1$.a");
        listsStrictly(due, "{\"c\":1,\"b\":2,\"a\":3}", "{\"z\":0,\"a\":9,\"y\":0,\"b\":9}",
                "3$.c 1$.b 1$.a 4$.z 4$.y");
        listsStrictly(due, "{\"a\":{\"b\":1},\"c\":{}}", "{\"d\":1,\"a\":{\"e\":1},\"c\":{\"f\":1}}",
                "3$.a.b 4$.a.e 4$.c.f 4$.d");
        lists(due, "{\"a\":{\"b\":1},\"c\":{}}", "{\"d\":1,\"a\":{\"e\":1},\"c\":{\"f\":1}}", "3$.a.b");
        listsStrictly(due, "{\"a\":null}", "{\"a\":null}", "");
        listsStrictly(due, "{\"a\":null}", "{\"b\":null}", "3$.a 4$.b");
        listsStrictly(due, "{\"a\":1}", "{\"b\":1}", "3$.a 4$.b", "$.a:0", "$.b:i");
        listsStrictly(due, "{\"a\":1}", "{\"b\":1}", "3$.a 4$.b", "$:t");
        listsStrictly(due, "[[[[{\"a\":1}]]]]", "[[[[{\"b\":1}]]]]", "3$[0][0][0][0].a 4$[0][0][0][0].b");
        lists(due, "{\"a\":1}", "[]", "", "$:t|>0");
        lists(due, "[]", "{\"a\":1}", "5$", "$:t|>0");
    }
}
