public final class Promise09VerifyTest {
    public static void main(String[] args) {
        Check check = new Check();
        withoutRules(check);
        arraysWithoutRules(check);
        objects(check);
        aRuleThatDoesNotHold(check);
        aRuleThatHolds(check);
        looseArrays(check);
        placesGoOnInOrder(check);
        manyMismatches(check);
        whatIsThrown(check);
        theTextIsTaken(check);
        check.finish();
    }

    private static void withoutRules(Check check) {
        String[] values = {"null", "true", "false", "0", "7", "-7", "\"\"", "\"a\"", "[]", "{}"};
        for (String expected : values) {
            for (String actual : values) {
                String due = expected.equals(actual) ? "" : "1$";
                check.due(expected + " and " + actual, Desk.compare(true, expected, actual), due);
            }
        }
        check.due("a value ends the comparison", Desk.compare(true, "[[1,2],3]", "[{\"a\":1},4]"), "1$[0] 1$[1]");
        check.due("an object for a number", Desk.compare(true, "{\"a\":1}", "{\"a\":{\"b\":1}}"), "1$.a");
    }

    private static void arraysWithoutRules(Check check) {
        check.due("longer", Desk.compare(false, "[1,2]", "[1,2,3]"), "2$");
        check.due("shorter", Desk.compare(false, "[1,2]", "[1]"), "2$");
        check.due("empty", Desk.compare(false, "[1,2]", "[]"), "2$");
        check.due("not empty", Desk.compare(false, "[]", "[1]"), "2$");
        check.due("the length comes first", Desk.compare(false, "[1,2,3]", "[2,1]"), "2$ 1$[0] 1$[1]");
        check.due("inside", Desk.compare(false, "[[1],[2]]", "[[1,1],[3]]"), "2$[0] 1$[1][0]");
    }

    private static void objects(Check check) {
        check.due("missing", Desk.compare(false, "{\"a\":1,\"b\":2}", "{\"b\":2}"), "3$.a");
        check.due("in E's order", Desk.compare(false, "{\"b\":1,\"a\":2,\"c\":3}", "{\"a\":3,\"b\":3}"), "1$.b 1$.a 3$.c");
        check.due("unexpected, not strict", Desk.compare(false, "{\"a\":1}", "{\"b\":1,\"a\":1}"), "");
        check.due("unexpected in A's order",
                Desk.compare(true, "{\"a\":1}", "{\"z\":1,\"a\":2,\"b\":1}"), "1$.a 4$.z 4$.b");
        check.due("missing before unexpected", Desk.compare(true, "{\"a\":1}", "{\"b\":1}"), "3$.a 4$.b");
        check.due("inside before what is unexpected outside",
                Desk.compare(true, "{\"a\":{\"b\":1}}", "{\"z\":1,\"a\":{\"c\":1}}"), "3$.a.b 4$.a.c 4$.z");
        check.due("a null is not missing", Desk.compare(false, "{\"a\":null}", "{\"a\":null}"), "");
        check.due("at the fifth step", Desk.compare(true, "[[[[{\"a\":1}]]]]", "[[[[{\"b\":1}]]]]"),
                "3$[0][0][0][0].a 4$[0][0][0][0].b");
    }

    private static void aRuleThatDoesNotHold(Check check) {
        check.due("that is all", Desk.compare(true, "[1,[2]]", "[3,[4,5]]", "$:0"), "5$");
        check.due("instead of a value", Desk.compare(true, "{\"a\":1}", "{\"a\":2}", "$.a:="), "5$.a");
        check.due("for each place it fits", Desk.compare(true, "[1,2]", "[1,2]", "$[*]:0"), "5$[0] 5$[1]");
        check.due("missing stays missing", Desk.compare(true, "{\"a\":1}", "{}", "$.a:0"), "3$.a");
        check.due("unexpected stays unexpected", Desk.compare(true, "{}", "{\"a\":1}", "$.a:i"), "4$.a");
    }

    private static void aRuleThatHolds(Check check) {
        check.due("another value", Desk.compare(true, "{\"a\":1}", "{\"a\":2}", "$.a:i"), "");
        check.due("another kind", Desk.compare(true, "{\"a\":[1]}", "{\"a\":null}", "$.a:0"), "");
        check.due("an array for an object", Desk.compare(true, "{\"a\":{\"b\":1}}", "{\"a\":[1]}", "$.a:>1"), "");
        check.due("an object for an array", Desk.compare(true, "[1]", "{\"a\":1}", "$:t|i|0|=|~a|/a/|>0"), "5$");
        check.due("it goes on in objects", Desk.compare(true, "{\"a\":1,\"b\":2}", "{\"a\":1,\"c\":2}", "$:t"), "3$.b 4$.c");
        check.due("it is selected further in", Desk.compare(true, "{\"a\":1}", "{\"a\":\"x\"}", "$:t"), "5$.a");
        check.due("another is selected further in", Desk.compare(true, "{\"a\":1}", "{\"a\":\"x\"}", "$:t", "$.a:~x"), "");
        check.due("the heavier one", Desk.compare(true, "{\"a\":1}", "{\"a\":2}", "$.*:=", "$.a:i"), "");
    }

    private static void looseArrays(Check check) {
        check.due("longer: the last one again", Desk.compare(true, "[1,\"a\"]", "[2,\"b\",\"c\",3]", "$:t"), "5$[3]");
        check.due("shorter", Desk.compare(true, "[1,2,3]", "[1]", "$:t"), "");
        check.due("none expected", Desk.compare(true, "[]", "[1,\"a\",null]", "$:t"), "");
        check.due("none there", Desk.compare(true, "[1]", "[]", "$:t"), "");
        check.due("at least", Desk.compare(true, "[1]", "[1,1,2]", "$:>2", "$[*]:="), "5$[2]");
        check.due("at most", Desk.compare(true, "[1]", "[1,1,2]", "$:<3", "$[*]:="), "5$[2]");
        check.due("one of several is enough", Desk.compare(true, "[1]", "[1,2]", "$:0|=|>0", "$[*]:="), "5$[1]");
        check.due("also one that does not hold", Desk.compare(true, "[1]", "[1]", "$:=|<0", "$[*]:i"), "");
        check.due("equal ones are not loose", Desk.compare(true, "[1]", "[1]", "$:="), "");
        // Only a rule with | holds for arrays of different lengths without one of t > <; none of these does.
        check.due("no array", Desk.compare(true, "[1]", "[1,1]", "$:=|0|i|~a|/a/"), "5$");
        check.due("inside a loose one", Desk.compare(true, "[[1,2]]", "[[1],[1,3]]", "$:t", "$[*]:t", "$[*][*]:="),
                "5$[1][1]");
        check.due("an inner one without a rule of its own",
                Desk.compare(true, "[[1,2]]", "[[1],[1,3]]", "$:t"), "");
        check.due("only where the rule is", Desk.compare(true, "[[1]]", "[[1,1]]", "$.a:t"), "2$[0]");
        check.due("missing in each", Desk.compare(true, "[{\"a\":1}]", "[{},{\"a\":1},{\"b\":1}]", "$:t"),
                "3$[0].a 3$[2].a 4$[2].b");
    }

    private static void placesGoOnInOrder(Check check) {
        check.due("after a deep one", Desk.compare(true, "{\"a\":[[1]],\"b\":2}", "{\"a\":[[2]],\"b\":3}"),
                "1$.a[0][0] 1$.b");
        check.due("two digits", Desk.compare(true, "[0,0,0,0,0,0,0,0,0,0,0,0]", "[0,0,0,0,0,0,0,0,0,1,1,1]"),
                "1$[9] 1$[10] 1$[11]");
        check.due("a number of two digits is not that of one",
                Desk.compare(true, "[0,0,0,0,0,0,0,0,0,0,0]", "[0,2,0,0,0,0,0,0,0,0,2]", "$[1]:i"), "1$[10]");
    }

    private static void manyMismatches(Check check) {
        Desk desk = Desk.with(false, "[" + "1,".repeat(48) + "1]");
        check.due("49 of 49", desk.verify(0, "[" + "2,".repeat(48) + "2]"), 49);
        check.due("listed", desk.listed(), 30);
        check.due("the last listed", desk.place(29), "$[29]");
        check.due("no more", desk.mismatch(30), -1);
        check.due("30 of 30", desk.verify(0, "[" + "2,".repeat(30) + "1,".repeat(18) + "1]"), 30);
        check.due("listed", desk.listed(), 30);

        String wide = "[{" + String.join(",", "\"a\":1", "\"b\":1", "\"c\":1", "\"d\":1", "\"e\":1", "\"f\":1", "\"g\":1",
                "\"h\":1", "\"i\":1", "\"j\":1", "\"k\":1", "\"l\":1", "\"m\":1", "\"n\":1", "\"o\":1", "\"p\":1") + "}]";
        Desk loose = Desk.with(false, wide, "$:t");
        check.due("16 missing in each of 33", loose.verify(0, "[" + "{},".repeat(32) + "{}]"), 528);
        check.due("listed", loose.listed(), 30);
        check.due("the last listed", loose.place(29), "$[1].n");
    }

    private static void whatIsThrown(Check check) {
        Desk desk = Desk.with(false, "1");
        desk.make(false);
        desk.needs(0, 0);
        desk.needs(1, 0);
        desk.handler(0, 1);
        check.due("a mismatch", desk.verify(0, "2"), 1);
        String before = desk.events();
        check.due("no value", desk.verify(0, "x"), Desk.ARGUMENT);
        check.due("no text", desk.verify(0, ""), Desk.ARGUMENT);
        check.due("too deep", desk.verify(0, "[[[[[[]]]]]]"), Desk.ARGUMENT);
        check.due("no such interaction", desk.verify(2, "1"), Desk.ARGUMENT);
        check.due("none below", desk.verify(-1, "1"), Desk.ARGUMENT);
        check.due("far above", desk.verify(Integer.MAX_VALUE, "1"), Desk.ARGUMENT);
        check.due("no body", desk.verify(1, "1"), Desk.STATE);
        check.due("no body and no value", desk.verify(1, "x"), Desk.ARGUMENT);
        check.due("the events are as before", desk.events(), before);
        check.due("the listing is as before", desk.listing(), "1$");
        check.due("the body is as before", desk.verify(0, "1"), 0);
        check.due("there is still no body", desk.body(1, "5"), 1);
    }

    private static void theTextIsTaken(Check check) {
        Desk desk = Desk.with(false, "1");
        check.due("no such interaction", desk.verify(1, "1"), Desk.ARGUMENT);
        check.due("nothing is left of it", desk.verify(0, ""), Desk.ARGUMENT);
        check.due("a match", desk.verify(0, "1"), 0);
        check.due("nothing is left of that", desk.verify(0, ""), Desk.ARGUMENT);
        desk.make(false);
        check.due("no body", desk.verify(1, "1"), Desk.STATE);
        check.due("nothing is left of this either", desk.verify(0, "2"), 1);
        desk.needs(0, 0);
        check.due("a state fails", desk.verify(0, "1"), -3);
        check.due("nothing is left there too", desk.body(0, ""), Desk.ARGUMENT);
    }
}
