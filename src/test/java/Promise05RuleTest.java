public final class Promise05RuleTest {
    public static void main(String[] args) {
        Check check = new Check();
        rulesAreTaken(check);
        whatIsNoRuleIsRefused(check);
        thereAreEightAtMost(check);
        eachInteractionHasItsOwn(check);
        theTextIsTaken(check);
        check.finish();
    }

    private static String ruleOf(String text) {
        Desk desk = new Desk();
        desk.make(false);
        return desk.rule(0, text);
    }

    private static void rulesAreTaken(Check check) {
        String[] right = {"$:t", "$:=", "$:0", "$:i", "$:>0", "$:>9", "$:<0", "$:<9", "$:~a", "$:~abcdef", "$:/a/",
            "$:/./", "$:/a*/", "$:/a+/", "$:/.*/", "$:/.+/", "$:/abcdefgh/", "$:/a*b*c*d*e*f*.*.+/", "$.a:t", "$.z:t",
            "$.*:t", "$[0]:t", "$[9]:t", "$[*]:t", "$.a.b.c.d.e:t", "$[0][1][2][3][4]:t", "$.*[*].*[*].*:t", "$:t&t",
            "$:t|t", "$:t&=&0&i&>1&<1&~a&/a/", "$:t|=|0|i|>1|<1|~a|/a/", "$:~a|~b", "$:~a&/b/", "$:/a/|/b/",
            "$:" + "t&".repeat(48) + "t", "$:" + "t|".repeat(48) + "t"};
        for (String text : right) {
            check.due("rule of " + text, ruleOf(text), 0);
        }
    }

    private static void whatIsNoRuleIsRefused(Check check) {
        String[] wrong = {"", "$", "$:", ":t", "t", "$t", "$::t", "$:t:t", " $:t", "$ :t", "$: t", "$:t ", "$$:t", "a:t",
            "$a:t", "$.:t", "$.A:t", "$.1:t", "$.ab:t", "$..a:t", "$[]:t", "$[a]:t", "$[-1]:t", "$[00]:t", "$[10]:t",
            "$[**]:t", "$[*:t", "$[1:t", "$1]:t", "$.**:t", "$*:t", "$.a.b.c.d.e.f:t", "$.*.*.*.*.*.*:t",
            "$[0][1][2][3][4][5]:t", "$.[0]:t", "$:x", "$:T", "$:1", "$:00", "$:tt", "$:t&", "$:t|", "$:&t", "$:|t",
            "$:t&&t", "$:t||t", "$:t&t|t", "$:t|t&t", "$:t&i|0", "$:t,t", "$:>", "$:>a", "$:>10", "$:<", "$:<-1", "$:<10",
            "$:~", "$:~A", "$:~1", "$:~abcdefg", "$:~a*", "$:~a.", "$:/", "$://", "$:/a", "$:a/", "$:/A/", "$:/1/",
            "$:/*/", "$:/+/", "$:/a**/", "$:/a*+/", "$:/a+*/", "$:/a++/", "$:/abcdefghi/", "$:/a*b*c*d*e*f*g*h*i*/",
            "$:/a/a", "$:/a//", "$:/a b/", "$:/a&t", "$:~&t", "$:t&~", "$:>&t"};
        for (String text : wrong) {
            check.due("rule of " + text, ruleOf(text), Desk.ARGUMENT);
        }
    }

    private static void thereAreEightAtMost(Check check) {
        Desk desk = new Desk();
        desk.make(false);
        for (int i = 0; i < 8; i++) {
            check.due("rule number " + i, desk.rule(0, "$[" + i + "]:t"), i);
            check.due("no rule", desk.rule(0, "$:x"), Desk.ARGUMENT);
        }
        check.due("the ninth", desk.rule(0, "$[8]:t"), Desk.STATE);
        check.due("no rule, where there are eight", desk.rule(0, "$:x"), Desk.ARGUMENT);
        check.due("the ninth again", desk.rule(0, "$[8]:t"), Desk.STATE);
        check.due("the ninth is not there", desk.select(0, "$[8]"), -1);
        for (int i = 0; i < 8; i++) {
            check.due("select of rule " + i, desk.select(0, "$[" + i + "]"), i);
        }
    }

    private static void eachInteractionHasItsOwn(Check check) {
        Desk desk = new Desk();
        desk.make(false);
        desk.make(false);
        check.due("the first of 0", desk.rule(0, "$.a:t"), 0);
        check.due("the first of 1", desk.rule(1, "$.b:t"), 0);
        check.due("the second of 1", desk.rule(1, "$.a:t"), 1);
        check.due("select of 0", desk.select(0, "$.a"), 0);
        check.due("select of 1", desk.select(1, "$.a"), 1);
        check.due("none such", desk.rule(2, "$:t"), Desk.ARGUMENT);
        check.due("none below", desk.rule(-1, "$:t"), Desk.ARGUMENT);
    }

    private static void theTextIsTaken(Check check) {
        Desk desk = new Desk();
        check.due("no interaction", desk.rule(0, "$:t"), Desk.ARGUMENT);
        desk.make(false);
        check.due("nothing is left", desk.rule(0, ""), Desk.ARGUMENT);
        check.due("no rule", desk.rule(0, "$:"), Desk.ARGUMENT);
        check.due("nothing is left of that", desk.rule(0, "t"), Desk.ARGUMENT);
        for (int i = 0; i < 8; i++) {
            check.due("a rule", desk.rule(0, "$:t"), i);
        }
        check.due("the ninth", desk.rule(0, "$:t"), Desk.STATE);
        check.due("nothing is left of the ninth", desk.select(0, ""), -1);
    }
}
