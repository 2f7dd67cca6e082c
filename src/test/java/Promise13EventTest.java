public final class Promise13EventTest {
    public static void main(String[] args) {
        Check check = new Check();
        eventsOfAllInteractions(check);
        wrongNumbersGetNone(check);
        asManyAsFiveHundredCallsCanMake(check);
        check.finish();
    }

    private static void eventsOfAllInteractions(Check check) {
        Desk desk = Desk.with(false, "1");
        desk.make(false);
        desk.body(1, "1");
        desk.needs(0, 1);
        desk.needs(1, 5);
        desk.handler(1, 1);
        desk.verify(1, "1");
        desk.verify(0, "1");
        desk.handler(5, 3);
        desk.verify(1, "2");
        check.due("events", desk.events(), "52 10 11 50 53");
        check.due("event(-1)", desk.event(-1), 5);
        check.due("event(4)", desk.event(4), 53);
        check.due("event(5)", desk.event(5), -1);
    }

    private static void wrongNumbersGetNone(Check check) {
        Desk desk = Desk.with(false, "1");
        desk.needs(0, 0);
        desk.handler(0, 1);
        desk.verify(0, "1");
        int[] wrong = {-2, -3, 2, 100, 3072, Integer.MIN_VALUE, Integer.MAX_VALUE};
        for (int number : wrong) {
            check.due("event(" + number + ")", desk.event(number), -1);
        }
        check.due("event(0)", desk.event(0), 0);
        check.due("event(1)", desk.event(1), 1);
    }

    private static void asManyAsFiveHundredCallsCanMake(Check check) {
        Desk desk = Desk.with(false, "1");
        for (int state = 0; state < 3; state++) {
            desk.needs(0, state);
            desk.handler(state, 1);
        }
        // So far there were nine calls; each verify takes one more for its text.
        int verified = (510 - 9) / 2;
        for (int i = 0; i < verified; i++) {
            desk.verify(0, "1");
        }
        check.due("event(-1)", desk.event(-1), 6 * verified);
        check.due("the last event", desk.event(6 * verified - 1), 1);
    }
}
