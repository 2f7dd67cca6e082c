/** What the document says of body. */
final class BodySentences {
    private BodySentences() {
    }

    static void test(Sentences due) {
        valuesAreCounted(due);
        anEqualBodyStays(due);
        whatIsThrown(due);
    }

    private static void valuesAreCounted(Sentences due) {
        due.by("Takes the text as the expected body of an interaction: how many values it consists of.");
        String[][] counts = {{"null", "1"}, {"99999", "1"}, {"\"abcdefghijkl\"", "1"}, {"[]", "1"}, {"{}", "1"},
            {"[[]]", "2"}, {"[1,2]", "3"}, {"{\"a\":1}", "2"}, {"{\"a\":{},\"b\":[]}", "3"}, {"[[[[[]]]]]", "5"},
            {"[[[[[1]]]]]", "6"}, {"[[1,2],[3],{\"a\":[4]}]", "9"}, {"[" + "1,".repeat(48) + "1]", "50"}};
        for (String[] pair : counts) {
            Desk desk = new Desk();
            desk.make(false);
            due.due("body of " + pair[0], desk.body(0, pair[0]), pair[1]);
            due.due("body of " + pair[0] + " again", desk.body(0, pair[0]), pair[1]);
            due.due("verify of it", desk.verify(0, pair[0]), 0);
            due.due("verify of another", desk.verify(0, "-9"), 1);
        }
    }

    private static void anEqualBodyStays(Sentences due) {
        due.by("If the interaction has a body, that stays, if the text is equal to it.");
        Desk desk = Desk.with(false, "{\"b\":1,\"a\":{\"d\":2,\"c\":3}}");
        due.due("body in another order", desk.body(0, "{\"a\":{\"c\":3,\"d\":2},\"b\":1}"), 5);
        desk.verify(0, "{\"a\":{}}");
        due.due("the order of the first", desk.listing(), "3$.b 3$.a.d 3$.a.c");
        due.due("body that is not equal", desk.body(0, "{\"b\":1,\"a\":{\"d\":2,\"c\":4}}"), Desk.STATE);
        due.due("verify of the first", desk.verify(0, "{\"b\":1,\"a\":{\"d\":2,\"c\":3}}"), 0);
    }

    private static void whatIsThrown(Sentences due) {
        due.by("IllegalArgumentException if there is no such interaction, or the text is no value; "
                + "IllegalStateException if it has a body that is not equal to the text. (The one named first, if "
                + "both hold.)");
        for (int made = 0; made <= 4; made++) {
            int[] numbers = {Integer.MIN_VALUE, -1, 0, 1, 2, 3, 4, 5, Integer.MAX_VALUE};
            for (int number : numbers) {
                Desk desk = new Desk();
                for (int i = 0; i < made; i++) {
                    desk.make(false);
                }
                boolean there = number >= 0 && number < made;
                String what = "body(" + number + ") of " + made;
                due.due(what + ", no value", desk.body(number, "1 "), Desk.ARGUMENT);
                due.due(what, desk.body(number, "1"), there ? 1 : Desk.ARGUMENT);
                due.due(what + " again", desk.body(number, "1"), there ? 1 : Desk.ARGUMENT);
                due.due(what + ", not equal", desk.body(number, "2"), there ? Desk.STATE : Desk.ARGUMENT);
                due.due(what + ", no value and not equal", desk.body(number, "2]"), Desk.ARGUMENT);
            }
        }
        Desk two = Desk.with(false, "1");
        two.make(false);
        due.due("a body of its own", two.body(1, "2"), 1);
        due.due("not that of the other", two.body(1, "1"), Desk.STATE);
        due.due("nor for the other", two.body(0, "2"), Desk.STATE);
    }
}
