/** What the document says of states, handler and event. */
final class StateSentences {
    private StateSentences() {
    }

    static void test(Sentences due) {
        handlers(due);
        events(due);
        aStateGetsAHandler(due);
        refusedHandlers(due);
        eventsFromZero(due);
        howManyEvents(due);
    }

    private static Desk needing(int... states) {
        Desk desk = Desk.with(false, "1");
        for (int state : states) {
            desk.needs(0, state);
        }
        return desk;
    }

    private static void handlers(Sentences due) {
        due.by("STATES 0 .. 5 have each a HANDLER: 0 none (at first), 1 a good one, 2 one that fails when it sets "
                + "up, 3 one that fails when it tears down.");
        int[] answers = {-3, 0, -3, 0};
        for (int state = 0; state < 6; state++) {
            due.due("verify, state " + state + " as at first", needing(state).verify(0, "1"), -3);
            for (int handler = 0; handler < 4; handler++) {
                Desk desk = needing(state);
                due.due("handler(" + state + ", " + handler + ")", desk.handler(state, handler), true);
                due.due("verify with it", desk.verify(0, "1"), answers[handler]);
                Desk others = needing(state);
                for (int other = 0; other < 6; other++) {
                    others.handler(other, other == state ? handler : 1 + handler % 2);
                }
                due.due("verify with other handlers for other states", others.verify(0, "1"), answers[handler]);
            }
        }
        due.due("needs(0, 6)", Desk.with(false, "1").needs(0, 6), false);
        due.due("handler(6, 1)", new Desk().handler(6, 1), false);
    }

    private static void events(Sentences due) {
        due.by("EVENTS are listed: 10 * state, and 0 if it was set up, 1 if it was torn down, 2 if setting up failed "
                + "(also without a handler), 3 if tearing down failed.");
        for (int state = 0; state < 6; state++) {
            int ten = 10 * state;
            String[] wanted = {String.valueOf(ten + 2), ten + " " + (ten + 1), String.valueOf(ten + 2),
                ten + " " + (ten + 3)};
            Desk atFirst = needing(state);
            atFirst.verify(0, "1");
            due.due("the events of state " + state + " as at first", atFirst.events(), wanted[0]);
            for (int handler = 0; handler < 4; handler++) {
                Desk desk = needing(state);
                desk.handler(state, handler);
                desk.verify(0, "1");
                due.due("the events of state " + state + " with handler " + handler, desk.events(), wanted[handler]);
            }
        }
    }

    private static void aStateGetsAHandler(Sentences due) {
        due.by("A state gets a handler (0 .. 3): true.");
        for (int from = 0; from < 4; from++) {
            for (int to = 0; to < 4; to++) {
                Desk desk = needing(5);
                due.due("handler(5, " + from + ")", desk.handler(5, from), true);
                due.due("handler(5, " + to + ") after it", desk.handler(5, to), true);
                due.due("verify with the later", desk.verify(0, "1"), to % 2 == 1 ? 0 : -3);
                due.due("the last event", desk.event(desk.event(-1) - 1), to % 2 == 1 ? 50 + to : 52);
            }
        }
        Desk unneeded = Desk.with(false, "1");
        due.due("handler of a state that nothing needs", unneeded.handler(0, 2), true);
        due.due("verify without it", unneeded.verify(0, "1"), 0);
    }

    private static void refusedHandlers(Sentences due) {
        due.by("False if there is no such state or handler.");
        int[] wrong = {Integer.MIN_VALUE, -2, -1, 6, 7, Integer.MAX_VALUE};
        Desk desk = needing(0, 5);
        desk.handler(0, 1);
        desk.handler(5, 3);
        for (int number : wrong) {
            for (int right = 0; right < 4; right++) {
                due.due("handler(" + number + ", " + right + ")", desk.handler(number, right), false);
            }
            for (int right = 0; right < 6; right++) {
                due.due("handler(" + right + ", " + number + ")", desk.handler(right, number), false);
            }
            due.due("handler(" + number + ", " + number + ")", desk.handler(number, number), false);
        }
        for (int state = 0; state < 6; state++) {
            due.due("handler(" + state + ", 4)", desk.handler(state, 4), false);
            due.due("handler(" + state + ", 5)", desk.handler(state, 5), false);
        }
        due.due("verify with the handlers that were there", desk.verify(0, "1"), 0);
        due.due("the events", desk.events(), "0 50 53 1");
    }

    private static void eventsFromZero(Sentences due) {
        due.by("Event k of all that there were, from 0 on; NONE if there is none.");
        Desk desk = needing(3);
        int[] wrong = {Integer.MIN_VALUE, -3, -2, 6, 7, Integer.MAX_VALUE};
        due.due("event(0) before all", desk.event(0), -1);
        desk.verify(0, "1");
        due.due("event(0) of one", desk.event(0), 32);
        due.due("event(1) of one", desk.event(1), -1);
        desk.handler(3, 1);
        desk.needs(0, 4);
        desk.verify(0, "1");
        desk.handler(4, 1);
        due.due("event(3) of four", desk.event(3), 31);
        due.due("event(4) of four", desk.event(4), -1);
        desk.make(false);
        desk.body(1, "1");
        desk.needs(1, 0);
        desk.handler(0, 3);
        desk.verify(1, "2");
        int[] all = {32, 30, 42, 31, 0, 3};
        for (int k = 0; k < all.length; k++) {
            due.due("event(" + k + ") of six", desk.event(k), all[k]);
        }
        for (int k : wrong) {
            due.due("event(" + k + ") of six", desk.event(k), -1);
        }
    }

    private static void howManyEvents(Sentences due) {
        due.by("How many there were if k is -1.");
        Desk desk = needing(0, 1, 2);
        due.due("before all", desk.event(-1), 0);
        desk.verify(0, "x");
        due.due("after a verify that throws", desk.event(-1), 0);
        desk.verify(0, "1");
        due.due("after one that failed", desk.event(-1), 1);
        desk.handler(0, 1);
        desk.verify(0, "1");
        due.due("after one set up, one that failed, one torn down", desk.event(-1), 4);
        desk.handler(1, 3);
        desk.handler(2, 1);
        desk.verify(0, "2");
        due.due("after three set up and torn down", desk.event(-1), 10);
        int events = 10;
        while (desk.callsLeft() > 2) {
            desk.verify(0, "1");
            events += 6;
            due.due("after three more", desk.event(-1), events);
        }
    }
}
