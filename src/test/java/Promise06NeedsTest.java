public final class Promise06NeedsTest {
    public static void main(String[] args) {
        Check check = new Check();
        threeStatesInTheirOrder(check);
        wrongNumbersAreRefused(check);
        eachInteractionHasItsOwn(check);
        check.finish();
    }

    private static void threeStatesInTheirOrder(Check check) {
        Desk desk = Desk.with(false, "1");
        for (int state = 0; state < 6; state++) {
            desk.handler(state, 1);
        }
        check.due("needs(0, 5)", desk.needs(0, 5), true);
        check.due("needs(0, 5) again", desk.needs(0, 5), false);
        check.due("needs(0, 0)", desk.needs(0, 0), true);
        check.due("needs(0, 5) once more", desk.needs(0, 5), false);
        check.due("needs(0, 3)", desk.needs(0, 3), true);
        check.due("a fourth", desk.needs(0, 1), false);
        check.due("one of the three", desk.needs(0, 3), false);
        desk.verify(0, "1");
        check.due("events", desk.events(), "50 0 30 31 1 51");
    }

    private static void wrongNumbersAreRefused(Check check) {
        Desk desk = Desk.with(false, "1");
        int[] wrong = {-1, 6, Integer.MIN_VALUE, Integer.MAX_VALUE};
        for (int number : wrong) {
            check.due("needs(0, " + number + ")", desk.needs(0, number), false);
            check.due("needs(" + number + ", 0)", desk.needs(number, 0), false);
        }
        check.due("needs(1, 0)", desk.needs(1, 0), false);
        check.due("verify", desk.verify(0, "1"), 0);
        check.due("events", desk.events(), "");
        for (int state = 0; state < 6; state++) {
            Desk other = Desk.with(false, "1");
            check.due("needs(0, " + state + ")", other.needs(0, state), true);
        }
    }

    private static void eachInteractionHasItsOwn(Check check) {
        Desk desk = Desk.with(false, "1");
        desk.make(false);
        desk.body(1, "1");
        desk.handler(2, 1);
        check.due("needs(1, 2)", desk.needs(1, 2), true);
        check.due("verify(0)", desk.verify(0, "1"), 0);
        check.due("events of 0", desk.events(), "");
        check.due("needs(0, 2)", desk.needs(0, 2), true);
        check.due("verify(1)", desk.verify(1, "1"), 0);
        check.due("events of 1", desk.events(), "20 21");
    }
}
