/** The states that verify sets up and tears down. */
public final class Promise09StatesTest {
    private static final String[] SET_UP = {"2", "0", "2", "0"};
    private static final String[] TORN_DOWN = {"", "1", "", "3"};

    public static void main(String[] args) {
        Check check = new Check();
        allHandlersOfThreeStates(check);
        aFailureKeepsTheListing(check);
        statesGoBeforeTheMismatches(check);
        check.finish();
    }

    private static boolean isGood(int handler) {
        return handler == 1 || handler == 3;
    }

    private static void allHandlersOfThreeStates(Check check) {
        int[] states = {3, 0, 5};
        for (int code = 0; code < 64; code++) {
            int[] handlers = {code / 16, code / 4 % 4, code % 4};
            Desk desk = Desk.with(false, "1");
            for (int i = 0; i < 3; i++) {
                desk.needs(0, states[i]);
                desk.handler(states[i], handlers[i]);
            }
            String told = "handlers " + handlers[0] + handlers[1] + handlers[2];
            boolean allGood = isGood(handlers[0]) && isGood(handlers[1]) && isGood(handlers[2]);
            check.due("verify with " + told, desk.verify(0, "2"), allGood ? 1 : -3);
            check.due("events with " + told, desk.events(), dueEvents(states, handlers));
            check.due("listing with " + told, desk.listing(), allGood ? "1$" : "");
        }
    }

    private static String dueEvents(int[] states, int[] handlers) {
        StringBuilder due = new StringBuilder();
        int done = 0;
        for (boolean good = true; done < 3 && good; done += good ? 1 : 0) {
            due.append(10 * states[done] + Integer.parseInt(SET_UP[handlers[done]])).append(' ');
            good = isGood(handlers[done]);
        }
        for (int i = done - 1; i >= 0; i--) {
            due.append(10 * states[i] + Integer.parseInt(TORN_DOWN[handlers[i]])).append(' ');
        }
        return due.toString().trim();
    }

    private static void aFailureKeepsTheListing(Check check) {
        Desk desk = Desk.with(false, "[1,2]");
        check.due("verify", desk.verify(0, "[2,1]"), 2);
        desk.needs(0, 1);
        check.due("verify that fails", desk.verify(0, "null"), -3);
        check.due("listed is what was", desk.listing(), "1$[0] 1$[1]");
        desk.handler(1, 3);
        check.due("verify that matches", desk.verify(0, "[1,2]"), 0);
        check.due("listed is nothing", desk.listing(), "");
        check.due("events", desk.events(), "12 10 13");
    }

    private static void statesGoBeforeTheMismatches(Check check) {
        Desk desk = Desk.with(false, "1");
        desk.needs(0, 2);
        desk.handler(2, 2);
        check.due("a body that would match", desk.verify(0, "1"), -3);
        check.due("a body that would not", desk.verify(0, "2"), -3);
        check.due("events", desk.events(), "22 22");
    }
}
