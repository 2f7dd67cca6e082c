public final class Promise08SelectTest {
    public static void main(String[] args) {
        Check check = new Check();
        patternsFit(check);
        noDigitStandsForTwo(check);
        theHeaviestIsSelected(check);
        whatIsNoPlaceSelectsNothing(check);
        longPlacesAreRead(check);
        theTextIsTaken(check);
        check.finish();
    }

    private static int selected(String place, String... rules) {
        return Desk.with(false, "1", rules).select(0, place);
    }

    private static void patternsFit(Check check) {
        String[][] fitting = {{"$", "$"}, {"$", "$.a"}, {"$", "$[10]"}, {"$.a", "$.a"}, {"$.a", "$.a.b"},
            {"$.a", "$.a[0]"}, {"$.*", "$.a"}, {"$.*", "$.z[1]"}, {"$[*]", "$[0]"}, {"$[*]", "$[99]"}, {"$[1]", "$[1]"},
            {"$[0]", "$[0].a"}, {"$.a[*].b", "$.a[12].b"}, {"$.*[*].*[*].*", "$.a[1].b[2].c"},
            {"$.*[*].*[*].*", "$.a[1].b[2].c.d"}, {"$[0][1][2][3][4]", "$[0][1][2][3][4]"}};
        for (String[] pair : fitting) {
            check.due(pair[0] + " for " + pair[1], selected(pair[1], pair[0] + ":t"), 0);
        }
        String[][] others = {{"$.a", "$"}, {"$.a", "$.b"}, {"$.a", "$[0]"}, {"$.*", "$"}, {"$.*", "$[0]"}, {"$[*]", "$"},
            {"$[*]", "$.a"}, {"$[1]", "$[0]"}, {"$[1]", "$[10]"}, {"$[1]", "$[11]"}, {"$[0]", "$[10]"}, {"$.a.b", "$.a"},
            {"$.a.b", "$.b.b"}, {"$.a.b", "$.a.a"}, {"$.*[*].*[*].*", "$.a[1].b[2]"},
            {"$.*[*].*[*].*", "$.a[1].b[2][0]"}, {"$.*.a", "$.a.b.a"}};
        for (String[] pair : others) {
            check.due(pair[0] + " for " + pair[1], selected(pair[1], pair[0] + ":t"), -1);
        }
    }

    private static void noDigitStandsForTwo(Check check) {
        Desk desk = Desk.with(false, "1", "$[1]:t", "$[2]:t", "$[3]:t", "$[5]:t", "$[8]:t", "$[9]:t", "$[0]:t");
        for (int number = 10; number < 100; number++) {
            check.due("select of $[" + number + "]", desk.select(0, "$[" + number + "]"), -1);
        }
    }

    private static void theHeaviestIsSelected(Check check) {
        check.due("a key before any", selected("$.a", "$.*:t", "$.a:t"), 1);
        check.due("any behind a key", selected("$.a", "$.a:t", "$.*:t"), 0);
        check.due("a number before any", selected("$[0]", "$[*]:t", "$[0]:t"), 1);
        check.due("more steps at one weight", selected("$.a", "$:t", "$.*:t"), 1);
        check.due("more steps, made first", selected("$.a", "$.*:t", "$:t"), 0);
        check.due("the first of two alike", selected("$.a", "$.a:t", "$.a:i"), 0);
        check.due("the first of two at one rank", selected("$.a.b", "$.a.*:t", "$.*.b:t"), 0);
        check.due("and the other way round", selected("$.a.b", "$.*.b:t", "$.a.*:t"), 0);
        check.due("weight before steps", selected("$.a.b.c.d", "$.*.*.*.*:t", "$.a:t"), 1);
        check.due("two keys before one and more steps", selected("$.a.b.c.d", "$.a.*.*.*:t", "$.a.b:t"), 1);
        check.due("all five", selected("$.a.b.c.d.e", "$:t", "$.a:t", "$.a.b:t", "$.a.b.c:t", "$.a.b.c.d.e:t",
                "$.a.b.c.d:t"), 4);
        check.due("only those that fit", selected("$.a.b", "$.a.c:t", "$.b:t", "$:t"), 2);
        check.due("weights of five and four keys", selected("$.a.b.c.d.e", "$.a.b.c.d.*:t", "$.a.b.c.d.e:t"), 1);
        check.due("a number weighs as a key", selected("$.a[0]", "$.a[*]:t", "$.*[0]:t", "$.a[0]:t"), 2);
    }

    private static void whatIsNoPlaceSelectsNothing(Check check) {
        String[] right = {"$", "$.a", "$.z", "$[0]", "$[9]", "$[10]", "$[99]", "$.a[1].b[22]", "$[0][0]"};
        for (String place : right) {
            check.due("select of " + place, selected(place, "$:t"), 0);
        }
        String[] wrong = {"", "a", ".a", "[0]", "$$", "$a", "$.", "$.A", "$.1", "$.ab", "$..a", "$.*", "$[*]", "$[]", "$[a]",
            "$[-1]", "$[00]", "$[01]", "$[100]", "$[1", "$1]", "$[1]]", "$[[1]", "$[1].", "$ ", " $", "$.a ", "$:t", "$.\"a\"",
            "$[1 ]", "$[+1]", "$.a,", "$[1.a", "$.a["};
        for (String place : wrong) {
            check.due("select of " + place, selected(place, "$:t"), -1);
        }
        Desk desk = Desk.with(false, "1", "$:t");
        int[] numbers = {-1, 1, 4, Integer.MIN_VALUE, Integer.MAX_VALUE};
        for (int number : numbers) {
            check.due("select(" + number + ")", desk.select(number, "$"), -1);
        }
        check.due("without a rule", selected("$"), -1);
    }

    private static void longPlacesAreRead(Check check) {
        check.due("49 keys", selected("$" + ".a".repeat(49), "$:t", "$.a.a.a.a.a:t"), 1);
        check.due("49 keys and half a step", selected("$" + ".a".repeat(49) + ".", "$:t"), -1);
        check.due("33 numbers", selected("$" + "[1]".repeat(33), "$:t", "$[1][1]:t"), 1);
        check.due("a fault at the end", selected("$" + ".a".repeat(48) + ".*", "$:t"), -1);
    }

    private static void theTextIsTaken(Check check) {
        Desk desk = Desk.with(false, "1", "$:t");
        check.due("no such interaction", desk.select(1, "$"), -1);
        check.due("nothing is left of it", desk.select(0, ""), -1);
        check.due("no place", desk.select(0, "$."), -1);
        check.due("nothing is left of that", desk.select(0, "a"), -1);
        check.due("a place", desk.select(0, "$"), 0);
        check.due("nothing is left of the place", desk.select(0, ".a"), -1);
    }
}
