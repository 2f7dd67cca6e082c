public final class Promise03MakeTest {
    public static void main(String[] args) {
        Check check = new Check();
        numbersGoFromZeroToThree(check);
        aNewOneHasNoBodyRuleOrState(check);
        strictIsKept(check);
        theTextIsNotTaken(check);
        check.finish();
    }

    private static void numbersGoFromZeroToThree(Check check) {
        Desk desk = new Desk();
        for (int i = 0; i < 4; i++) {
            check.due("make number " + i, desk.make(i % 2 == 0), i);
        }
        check.due("the fifth make", desk.make(false), Desk.STATE);
        check.due("the sixth make", desk.make(true), Desk.STATE);
        check.due("body of the last", desk.body(3, "1"), 1);
        check.due("body of what was refused", desk.body(4, "1"), Desk.ARGUMENT);
        check.due("body of a number below", desk.body(-1, "1"), Desk.ARGUMENT);
    }

    private static void aNewOneHasNoBodyRuleOrState(Check check) {
        Desk desk = Desk.with(false, "1", "$:t");
        desk.needs(0, 2);
        desk.make(false);
        check.due("verify without a body", desk.verify(1, "1"), Desk.STATE);
        check.due("select without a rule", desk.select(1, "$"), -1);
        check.due("body", desk.body(1, "2"), 1);
        check.due("verify without a state", desk.verify(1, "2"), 0);
        check.due("events", desk.events(), "");
    }

    private static void strictIsKept(Check check) {
        check.due("strict", Desk.compare(true, "{}", "{\"a\":1}"), "4$.a");
        check.due("not strict", Desk.compare(false, "{}", "{\"a\":1}"), "");
        Desk both = Desk.with(true, "{}");
        both.make(false);
        both.body(1, "{}");
        check.due("strict, after another was made", both.verify(0, "{\"a\":1}"), 1);
        check.due("not strict, after one that is", both.verify(1, "{\"a\":1}"), 0);
    }

    private static void theTextIsNotTaken(Check check) {
        Desk desk = new Desk();
        desk.text("1");
        for (int i = 0; i < 5; i++) {
            desk.make(false);
        }
        check.due("body of the text before make", desk.body(0, "2"), 1);
        check.due("body of 12", desk.body(0, "12"), 1);
    }
}
