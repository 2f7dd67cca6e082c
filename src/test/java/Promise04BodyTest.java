public final class Promise04BodyTest {
    public static void main(String[] args) {
        Check check = new Check();
        valuesAreCounted(check);
        whatIsNoValueIsRefused(check);
        depthHasABound(check);
        anEqualBodyStays(check);
        equalityGoesAllTheWay(check);
        theFirstNamedIsThrown(check);
        theTextIsTaken(check);
        check.finish();
    }

    private static String bodyOf(String text) {
        Desk desk = new Desk();
        desk.make(false);
        return desk.body(0, text);
    }

    private static void valuesAreCounted(Check check) {
        String[] single = {"null", "true", "false", "0", "1", "9", "10", "12345", "99999", "-1", "-12345",
            "\"\"", "\"a\"", "\"az\"", "\"abcdefghijkl\"", "[]", "{}"};
        for (String text : single) {
            check.due("body of " + text, bodyOf(text), 1);
        }
        check.due("body of [1]", bodyOf("[1]"), 2);
        check.due("body of [[],{}]", bodyOf("[[],{}]"), 3);
        check.due("body of {\"a\":1}", bodyOf("{\"a\":1}"), 2);
        check.due("body of a mixed one", bodyOf("{\"z\":[null,true,{\"z\":\"z\"}],\"a\":{},\"m\":-10}"), 8);
    }

    private static void whatIsNoValueIsRefused(Check check) {
        String[] wrong = {"", " ", "1 ", " 1", "nul", "nulll", "Null", "tru", "truefalse", "fals", "00", "01", "-0",
            "-01", "-", "--1", "+1", "123456", "-123456", "1.0", "1e1", "a", "\"", "\"a", "a\"", "\"A\"", "\"a1\"",
            "\"a b\"", "\"abcdefghijklm\"", "\"\"\"", "[", "]", "[1", "1]", "[,]", "[1,]", "[,1]", "[1,,1]", "[1 ]",
            "[1][1]", "[]]", "[1}", "{", "}", "{1}", "{\"a\"}", "{\"a\":}", "{\"a\":1", "{\"a\":1,}", "{,}",
            "{\"\":1}", "{\"ab\":1}", "{\"A\":1}", "{\"1\":1}", "{a:1}", "{\"a\",1}", "{\"a\":1,\"a\":1}",
            "{\"a\":1,\"b\":2,\"a\":3}", "{\"a\":1]", "{\"a\":1 }", "{\"a\":1\"b\":2}", "[{\"a\":{\"b\":1,\"b\":1}}]",
            "1,1", "$", "null,", "{}{}"};
        for (String text : wrong) {
            check.due("body of " + text, bodyOf(text), Desk.ARGUMENT);
        }
        check.due("the same key in another object", bodyOf("{\"a\":{\"a\":1},\"b\":{\"a\":1}}"), 5);
    }

    private static void depthHasABound(Check check) {
        check.due("five arrays", bodyOf("[[[[[]]]]]"), 5);
        check.due("five arrays and a number", bodyOf("[[[[[1]]]]]"), 6);
        check.due("six arrays", bodyOf("[[[[[[]]]]]]"), Desk.ARGUMENT);
        String object = "{\"a\":";
        check.due("five objects", bodyOf(object.repeat(4) + "{}}}}}"), 5);
        check.due("six objects", bodyOf(object.repeat(5) + "{}}}}}}"), Desk.ARGUMENT);
        check.due("five of both", bodyOf("[{\"a\":[{\"a\":[1]}]}]"), 6);
        check.due("six of both", bodyOf("[{\"a\":[{\"a\":[{}]}]}]"), Desk.ARGUMENT);
        check.due("a sixth behind others", bodyOf("[1,[[[[1,[]]]]]]"), Desk.ARGUMENT);
        check.due("many side by side", bodyOf("[[],[],[],[],[],[],[]]"), 8);
        check.due("as deep as the text is long", bodyOf("[".repeat(100)), Desk.ARGUMENT);
    }

    private static void anEqualBodyStays(Check check) {
        Desk desk = Desk.with(false, "{\"b\":1,\"a\":2}");
        check.due("the same", desk.body(0, "{\"b\":1,\"a\":2}"), 3);
        check.due("in another order", desk.body(0, "{\"a\":2,\"b\":1}"), 3);
        check.due("another", desk.body(0, "{\"a\":2}"), Desk.STATE);
        desk.verify(0, "{}");
        check.due("the order of the first body", desk.listing(), "3$.b 3$.a");
    }

    private static void equalityGoesAllTheWay(Check check) {
        String[][] pairs = {
            {"1", "1", "equal"}, {"1", "2", ""}, {"1", "-1", ""}, {"1", "10", ""}, {"0", "-1", ""}, {"0", "1", ""},
            {"0", "null", ""},
            {"null", "false", ""}, {"true", "true", "equal"}, {"true", "false", ""}, {"true", "\"true\"", ""},
            {"\"\"", "\"\"", "equal"}, {"\"a\"", "\"b\"", ""}, {"\"\"", "[]", ""}, {"[]", "{}", ""},
            {"null", "\"null\"", ""}, {"[1,2]", "[1,2]", "equal"}, {"[1,2]", "[2,1]", ""}, {"[1]", "[1,1]", ""},
            {"[1,1]", "[1]", ""}, {"[[1],2]", "[1,[2]]", ""}, {"{\"a\":1}", "{\"b\":1}", ""},
            {"{\"a\":1}", "{\"a\":2}", ""}, {"{\"a\":1}", "{\"a\":1,\"b\":1}", ""},
            {"{\"a\":1,\"b\":1}", "{\"a\":1}", ""}, {"[{\"a\":1,\"b\":[2]}]", "[{\"b\":[2],\"a\":1}]", "equal"},
            {"[[[[[1]]]]]", "[[[[[1]]]]]", "equal"}, {"[[[[[1]]]]]", "[[[[[2]]]]]", ""}, {"[[[[[]]]]]", "[[[[{}]]]]", ""},
        };
        for (String[] pair : pairs) {
            Desk desk = Desk.with(false, pair[0]);
            boolean due = !pair[2].isEmpty();
            check.due("body of " + pair[1] + " over " + pair[0], !desk.body(0, pair[1]).equals(Desk.STATE), due);
            check.due("the body stays " + pair[0], desk.verify(0, pair[0]), 0);
        }
    }

    private static void theFirstNamedIsThrown(Check check) {
        Desk desk = Desk.with(false, "1");
        check.due("no value over a body", desk.body(0, "x"), Desk.ARGUMENT);
        check.due("no such interaction", desk.body(1, "1"), Desk.ARGUMENT);
        check.due("far below", desk.body(Integer.MIN_VALUE, "1"), Desk.ARGUMENT);
        check.due("far above", desk.body(Integer.MAX_VALUE, "1"), Desk.ARGUMENT);
        check.due("another value", desk.body(0, "2"), Desk.STATE);
    }

    private static void theTextIsTaken(Check check) {
        Desk desk = new Desk();
        check.due("body without an interaction", desk.body(0, "1"), Desk.ARGUMENT);
        desk.make(false);
        check.due("nothing is left of it", desk.body(0, ""), Desk.ARGUMENT);
        check.due("no value", desk.body(0, "x"), Desk.ARGUMENT);
        check.due("a value behind it", desk.body(0, "1"), 1);
        check.due("nothing is left of that", desk.body(0, ""), Desk.ARGUMENT);
        check.due("another value", desk.body(0, "2"), Desk.STATE);
        check.due("the first again", desk.body(0, "1"), 1);
    }
}
