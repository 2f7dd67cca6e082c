public final class Promise07HandlerTest {
    public static void main(String[] args) {
        Check check = new Check();
        eachHandlerDoesItsWork(check);
        theLatestCounts(check);
        wrongNumbersAreRefused(check);
        check.finish();
    }

    private static void eachHandlerDoesItsWork(Check check) {
        String[] answers = {"-3", "0", "-3", "0"};
        String[] outcomes = {"2", "0 1", "2", "0 3"};
        for (int state = 0; state < 6; state++) {
            for (int handler = 0; handler < 4; handler++) {
                Desk desk = Desk.with(false, "1");
                desk.needs(0, state);
                String what = "handler(" + state + ", " + handler + ")";
                check.due(what, desk.handler(state, handler), true);
                check.due("verify after " + what, desk.verify(0, "1"), answers[handler]);
                check.due("events after " + what, desk.events(), ofState(state, outcomes[handler]));
            }
        }
    }

    private static String ofState(int state, String outcomes) {
        StringBuilder events = new StringBuilder();
        for (String outcome : outcomes.split(" ")) {
            events.append(events.length() == 0 ? "" : " ").append(10 * state + Integer.parseInt(outcome));
        }
        return events.toString();
    }

    private static void theLatestCounts(Check check) {
        Desk desk = Desk.with(false, "1");
        desk.needs(0, 4);
        check.due("handler(4, 1)", desk.handler(4, 1), true);
        check.due("handler(4, 1) again", desk.handler(4, 1), true);
        check.due("verify", desk.verify(0, "1"), 0);
        check.due("handler(4, 3)", desk.handler(4, 3), true);
        check.due("verify", desk.verify(0, "1"), 0);
        check.due("handler(4, 0)", desk.handler(4, 0), true);
        check.due("verify", desk.verify(0, "1"), -3);
        check.due("events", desk.events(), "40 41 40 43 42");
    }

    private static void wrongNumbersAreRefused(Check check) {
        Desk desk = Desk.with(false, "1");
        desk.needs(0, 0);
        desk.handler(0, 1);
        int[][] wrong = {{-1, 1}, {6, 1}, {6, 0}, {0, -1}, {0, 4}, {-1, -1}, {Integer.MIN_VALUE, 2},
            {Integer.MAX_VALUE, 2}, {0, Integer.MIN_VALUE}, {0, Integer.MAX_VALUE}};
        for (int[] pair : wrong) {
            check.due("handler(" + pair[0] + ", " + pair[1] + ")", desk.handler(pair[0], pair[1]), false);
        }
        check.due("verify", desk.verify(0, "1"), 0);
        check.due("events", desk.events(), "0 1");
    }
}
