/** What the document says of rules and patterns: how they are written, which fit, and which is selected. */
final class RuleSentences {
    private RuleSentences() {
    }

    static void test(Sentences due) {
        oneOrMoreMatchers(due);
        atMostFiveSteps(due);
        patternsFit(due);
        weights(due);
        selection(due);
        numbersFromZero(due);
        whatIsThrown(due);
    }

    private static void isRule(Sentences due, String text, boolean wanted) {
        Desk desk = new Desk();
        desk.make(false);
        due.due("rule of " + text, desk.rule(0, text), wanted ? 0 : Desk.ARGUMENT);
    }

    private static void areRules(Sentences due, String... texts) {
        for (String text : texts) {
            isRule(due, text, true);
        }
    }

    private static void areNone(Sentences due, String... texts) {
        for (String text : texts) {
            isRule(due, text, false);
        }
    }

    private static int selected(String place, String... patterns) {
        String[] rules = new String[patterns.length];
        for (int i = 0; i < patterns.length; i++) {
            rules[i] = patterns[i] + ":t";
        }
        return Desk.with(false, "1", rules).select(0, place);
    }

    private static void oneOrMoreMatchers(Sentences due) {
        due.by("A RULE is a PATTERN, a colon, and one or more MATCHERS with signs between, which are all & (each has "
                + "to hold) or all | (one has to hold).");
        areRules(due, "$:t", "$:t&i", "$:t|i", "$:t&i&0", "$:t|i|0", "$:" + "t&".repeat(48) + "t",
                "$:" + "t|".repeat(48) + "t", "$:t&=&0&i&>1&<1&~a&/a/", "$:/a/|~a|<1|>1|i|0|=|t");
        areNone(due, "", "$", "$:", ":t", "t", "$t", "$::t", "$:t:t", "$;t", "$:&", "$:|", "$:&t", "$:|t", "$:t&",
                "$:t|", "$:tt", "$:t&&t", "$:t||t", "$:t&|t", "$:t|i&0", "$:t&i|0", "$:t|i|0&=", "$:t&i&0|=", "$:t,i",
                "$:t+i", "$: t", "$ :t", " $:t", "$:t ", "$:t &i", "$:" + "t&".repeat(49), "$:" + "t|".repeat(49));
        for (char c = 32; c < 127; c++) {
            isRule(due, "$:" + c, c == 't' || c == '=' || c == '0' || c == 'i');
            isRule(due, "$:t" + c + "i", c == '&' || c == '|');
            isRule(due, "$" + c + "t", c == ':');
            isRule(due, c + ":t", c == '$');
        }
        // For the actual value 2, where 1 is expected, t and i hold, and = and 0 do not.
        String[] matchers = {"t", "i", "=", "0"};
        for (int all = 0; all < 64; all++) {
            int[] three = {all / 16, all / 4 % 4, all % 4};
            int holding = (three[0] < 2 ? 1 : 0) + (three[1] < 2 ? 1 : 0) + (three[2] < 2 ? 1 : 0);
            String[] row = {matchers[three[0]], matchers[three[1]], matchers[three[2]]};
            String each = "$:" + String.join("&", row);
            due.due(each, Desk.compare(false, "1", "2", each), holding == 3 ? "" : "5$");
            String one = "$:" + String.join("|", row);
            due.due(one, Desk.compare(false, "1", "2", one), holding >= 1 ? "" : "5$");
        }
    }

    private static void atMostFiveSteps(Sentences due) {
        due.by("A pattern is written as a place, but each step can also be .* (any key) or [*] (any number); it has "
                + "at most five steps, their numbers have one digit.");
        String[] steps = {".a", "[9]", ".*", "[0]", ".z", "[*]", ".b"};
        StringBuilder mixed = new StringBuilder("$");
        for (int count = 0; count <= 7; count++) {
            isRule(due, mixed + ":t", count <= 5);
            for (String step : steps) {
                isRule(due, "$" + step.repeat(count) + ":t", count <= 5);
            }
            mixed.append(steps[count % steps.length]);
        }
        for (char c = 32; c < 127; c++) {
            boolean digit = c >= '0' && c <= '9';
            isRule(due, "$." + c + ":t", c >= 'a' && c <= 'z' || c == '*');
            isRule(due, "$[" + c + "]:t", digit || c == '*');
            isRule(due, "$[1" + c + "]:t", false);
            isRule(due, "$[*" + c + "]:t", false);
            isRule(due, "$.a" + c + ":t", false);
            isRule(due, "$.*" + c + ":t", false);
        }
        areNone(due, "$[10]:t", "$[99]:t", "$[00]:t", "$[01]:t", "$[-1]:t", "$[]:t", "$.:t", "$..a:t", "$.a.:t",
                "$[1:t", "$1]:t", "$[[1]]:t", "$[1]]:t", "$*:t", "$**:t", "$.[1]:t", "$[.a]:t", "$[a]:t", "$.1:t",
                "$.\"a\":t", "a:t", ".a:t");
    }

    private static void patternsFit(Sentences due) {
        due.by("A pattern FITS a place if it has no more steps than that, and each of its steps is the same as the "
                + "place's step there, or any such.");
        String[] steps = {".a", ".b", "[0]", "[1]"};
        String[] patterns = {".a", ".b", "[0]", "[1]", ".*", "[*]"};
        for (String step : steps) {
            for (String pattern : patterns) {
                boolean same = pattern.equals(step) || pattern.charAt(1) == '*' && pattern.charAt(0) == step.charAt(0);
                due.due(pattern + " for " + step, selected("$" + step, "$" + pattern), same ? 0 : -1);
                due.due(pattern + " for a fifth " + step, selected("$.c.c.c.c" + step, "$.c.c.c.c" + pattern),
                        same ? 0 : -1);
            }
        }
        for (int inPattern = 0; inPattern <= 5; inPattern++) {
            for (int inPlace = 0; inPlace <= 7; inPlace++) {
                int wanted = inPattern <= inPlace ? 0 : -1;
                String told = inPattern + " steps for " + inPlace;
                due.due(told, selected("$" + ".a".repeat(inPlace), "$" + ".a".repeat(inPattern)), wanted);
                due.due(told, selected("$" + "[0]".repeat(inPlace), "$" + "[*]".repeat(inPattern)), wanted);
            }
        }
        for (int number = 0; number < 100; number++) {
            for (int digit = 0; digit < 10; digit++) {
                due.due("[" + digit + "] for [" + number + "]", selected("$[" + number + "]", "$[" + digit + "]"),
                        digit == number ? 0 : -1);
            }
            due.due("[*] for [" + number + "]", selected("$[" + number + "]", "$[*]"), 0);
            due.due(".* for [" + number + "]", selected("$[" + number + "]", "$.*"), -1);
        }
        for (char key = 'a'; key <= 'z'; key++) {
            due.due(".* for ." + key, selected("$." + key, "$.*"), 0);
            due.due("[*] for ." + key, selected("$." + key, "$[*]"), -1);
            due.due(".m for ." + key, selected("$." + key, "$.m"), key == 'm' ? 0 : -1);
        }
    }

    private static void weights(Sentences due) {
        due.by("Its WEIGHT is 2, doubled by each step that is a key or a number.");
        // All that fit $.a[0].a[0].a: the place's step where the bit is 1, otherwise any such.
        for (int one = 1; one < 64; one++) {
            for (int other = 1; other < 64; other++) {
                int heavier = Integer.compare(keysAndNumbers(one), keysAndNumbers(other));
                if (heavier != 0) {
                    due.due(pattern(one) + " before " + pattern(other),
                            selected("$.a[0].a[0].a", pattern(one), pattern(other)), heavier > 0 ? 0 : 1);
                }
            }
        }
    }

    /** A code's highest bit tells how many steps follow. */
    private static int stepsOf(int code) {
        return 31 - Integer.numberOfLeadingZeros(code);
    }

    private static int keysAndNumbers(int code) {
        return Integer.bitCount(code) - 1;
    }

    private static String pattern(int code) {
        StringBuilder pattern = new StringBuilder("$");
        for (int i = 0; i < stepsOf(code); i++) {
            boolean any = (code >> i & 1) == 0;
            pattern.append(i % 2 == 0 ? any ? ".*" : ".a" : any ? "[*]" : "[0]");
        }
        return pattern.toString();
    }

    private static void selection(Sentences due) {
        due.by("The rule SELECTED for a place: of those that fit, that with the greatest weight, of several such "
                + "that with the most steps, of several such the one that was made first.");
        for (int one = 1; one < 64; one++) {
            for (int other = 1; other < 64; other++) {
                if (keysAndNumbers(one) == keysAndNumbers(other)) {
                    due.due(pattern(one) + " before " + pattern(other),
                            selected("$.a[0].a[0].a", pattern(one), pattern(other)),
                            stepsOf(one) >= stepsOf(other) ? 0 : 1);
                }
            }
        }
        due.due("the greatest weight, not the most steps", selected("$.a.b.c.d.e", "$.*.*.*.*.*", "$.a"), 1);
        due.due("the most steps, not the first", selected("$.a.b", "$.a", "$.a.*"), 1);
        due.due("the first of three", selected("$.a.b", "$", "$.a.*", "$.*.b", "$.a.*"), 1);
        due.due("the first of eight", selected("$.a", "$.a", "$.a", "$.a", "$.a", "$.a", "$.a", "$.a", "$.a"), 0);
        due.due("the last of eight", selected("$.a", "$", "$", "$", "$", "$", "$", "$", "$.*"), 7);
        due.due("only one that fits", selected("$.a", "$.b", "$.a.b", "$[0]", "$", "$.c"), 3);
        due.due("none that fits", selected("$.a", "$.b", "$.a.b", "$[0]", "$[*]"), -1);
    }

    private static void numbersFromZero(Sentences due) {
        due.by("Takes the text as a new rule of an interaction: its number, from 0.");
        Desk desk = new Desk();
        desk.make(false);
        desk.make(false);
        for (int i = 0; i < 8; i++) {
            due.due("rule(0) number " + i, desk.rule(0, "$.a[" + i + "]:t"), i);
            due.due("select of it", desk.select(0, "$.a[" + i + "]"), i);
            due.due("select of the next", desk.select(0, "$.a[" + (i + 1) + "]"), -1);
            due.due("rule(1) number " + i, desk.rule(1, "$:t"), i);
        }
        Desk same = new Desk();
        same.make(false);
        due.due("a rule", same.rule(0, "$:t"), 0);
        due.due("the same rule once more", same.rule(0, "$:t"), 1);
    }

    private static void whatIsThrown(Sentences due) {
        due.by("IllegalArgumentException if there is no such interaction, or the text is no rule; "
                + "IllegalStateException if it has 8. (The one named first, if both hold.)");
        int[] numbers = {Integer.MIN_VALUE, -1, 2, 3, 4, Integer.MAX_VALUE};
        Desk desk = new Desk();
        desk.make(false);
        desk.make(false);
        for (int rules = 0; rules <= 9; rules++) {
            for (int number : numbers) {
                due.due("rule(" + number + ") of two", desk.rule(number, "$:t"), Desk.ARGUMENT);
            }
            due.due("no rule, with " + rules, desk.rule(0, "$:t&"), Desk.ARGUMENT);
            due.due("a rule, with " + rules, desk.rule(0, "$:t"), rules < 8 ? rules : Desk.STATE);
        }
        due.due("the other interaction's first", desk.rule(1, "$:t"), 0);
    }
}
