/** What the document says of places and of select. */
final class PlaceSentences {
    private PlaceSentences() {
    }

    static void test(Sentences due) {
        rowsOfSteps(due);
        numbersOfOneOrTwoDigits(due);
        noneIsSelected(due);
    }

    private static void isPlace(Sentences due, String text, boolean wanted) {
        due.due("select of " + text, Desk.with(false, "1", "$:t").select(0, text), wanted ? 0 : -1);
    }

    private static void rowsOfSteps(Sentences due) {
        due.by("A PLACE in a value is a row of STEPS, each a key or a number (an element, from 0 on): $ alone is the "
                + "whole value; it is written $, and then for each step a period and the key, or [, the number, ].");
        String[] places = {"$", "$.a", "$.z", "$[0]", "$[9]", "$[10]", "$.a.b", "$[0].a", "$.a[0]", "$[0][0]",
            "$[0].a[0].a[0]", "$.a[1].b[22].c", "$[0][0][0][0][0]", "$.a.b.c.d.e"};
        for (String place : places) {
            isPlace(due, place, true);
        }
        String[] others = {"", ".", "a", ".a", "[0]", "$$", "$.", "$a", "$0", "$[", "$]", "$[]", "$[0", "$0]", "$.a.",
            "$..a", "$.a$", "$.ab", "$.A", "$.*", "$[*]", "$.\"a\"", "$[a]", "$.0", "$[0]]", "$[[0]]", "$[0]a", "$.a0",
            "$(0)", "$ ", " $", "$. a", "$[ 0]", "$[0 ]", "$:t", "$.a:t"};
        for (String other : others) {
            isPlace(due, other, false);
        }
        for (char c = 32; c < 127; c++) {
            isPlace(due, String.valueOf(c), c == '$');
            isPlace(due, "$." + c, c >= 'a' && c <= 'z');
            isPlace(due, "$" + c + "a", c == '.');
            isPlace(due, "$[0" + c, c == ']');
            isPlace(due, "$" + c + "0]", c == '[');
        }
        due.due("places of elements", Desk.compare(true, "[0,[0,0]]", "[1,[1,1]]"), "1$[0] 1$[1][0] 1$[1][1]");
        due.due("places of members", Desk.compare(true, "{\"z\":0,\"a\":{\"b\":0}}", "{\"z\":1,\"a\":{\"b\":1}}"),
                "1$.z 1$.a.b");
        due.due("the place of the whole", Desk.compare(true, "0", "1"), "1$");
        due.due("numbers of one and two digits",
                Desk.compare(true, "[0,0,0,0,0,0,0,0,0,0,0]", "[0,0,0,0,0,0,0,0,0,1,1]"), "1$[9] 1$[10]");
        String row = "[" + "0,".repeat(48);
        due.due("the farthest element", Desk.compare(true, row + "0]", row + "1]"), "1$[48]");
        due.due("five steps", Desk.compare(true, "[{\"a\":[{\"b\":[0]}]}]", "[{\"a\":[{\"b\":[1]}]}]"),
                "1$[0].a[0].b[0]");
    }

    private static void numbersOfOneOrTwoDigits(Sentences due) {
        due.by("Takes the text as an actual place, whose numbers have one or two digits (no 0 before another): the "
                + "number of the rule that an interaction selects for it.");
        for (int number = 0; number <= 120; number++) {
            isPlace(due, "$[" + number + "]", number < 100);
            isPlace(due, "$.a[" + number + "].b", number < 100);
            isPlace(due, "$[0" + number + "]", false);
        }
        isPlace(due, "$[999]", false);
        isPlace(due, "$[1000]", false);
        isPlace(due, "$[-1]", false);
        isPlace(due, "$[+1]", false);
        for (char c = 32; c < 127; c++) {
            boolean digit = c >= '0' && c <= '9';
            isPlace(due, "$[" + c + "]", digit);
            isPlace(due, "$[1" + c + "]", digit);
            isPlace(due, "$[" + c + "1]", digit && c != '0');
        }
        for (int steps = 0; steps <= 49; steps++) {
            isPlace(due, "$" + ".a".repeat(steps), true);
        }
        isPlace(due, "$" + "[12]".repeat(24), true);
        isPlace(due, "$" + "[1]".repeat(33), true);
        isPlace(due, "$" + ".a".repeat(48) + ".*", false);
        isPlace(due, "$" + ".a".repeat(49) + ".", false);
        due.due("rule 1 of a place of 49 steps",
                Desk.with(false, "1", "$:t", "$.a.a.a.a.a:t").select(0, "$" + ".a".repeat(49)), 1);
        Desk two = Desk.with(false, "1", "$.a:t", "$.b:t");
        two.make(false);
        two.rule(1, "$.b:t");
        due.due("an interaction's own rule", two.select(0, "$.b"), 1);
        due.due("another interaction's own rule", two.select(1, "$.b"), 0);
        due.due("no body is needed", two.select(1, "$.b.c"), 0);
    }

    private static void noneIsSelected(Sentences due) {
        due.by("NONE if there is no such interaction, no rule is selected, or the text is no place.");
        for (int made = 0; made <= 4; made++) {
            Desk desk = new Desk();
            for (int i = 0; i < made; i++) {
                desk.make(false);
                desk.rule(i, "$:t");
            }
            int[] numbers = {Integer.MIN_VALUE, -1, 0, 1, 2, 3, 4, 5, Integer.MAX_VALUE};
            for (int number : numbers) {
                int wanted = number >= 0 && number < made ? 0 : -1;
                due.due("select(" + number + ") of " + made, desk.select(number, "$"), wanted);
                due.due("select(" + number + ") of no place", desk.select(number, "$$"), -1);
            }
        }
        Desk desk = Desk.with(false, "1");
        due.due("select without a rule", desk.select(0, "$"), -1);
        desk.rule(0, "$.a:t");
        due.due("select where none fits", desk.select(0, "$"), -1);
        due.due("select where one fits", desk.select(0, "$.a"), 0);
        desk.rule(0, "$:t");
        due.due("select where the second fits", desk.select(0, "$"), 1);
    }
}
