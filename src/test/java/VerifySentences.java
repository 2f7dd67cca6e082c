/** What the document says of verify. */
final class VerifySentences {
    private VerifySentences() {
    }

    static void test(Sentences due) {
        anActualBody(due);
        settingUpFails(due);
        howManyMismatches(due);
        allAreTornDown(due);
        whatIsThrown(due);
    }

    private static String row(int length, String element) {
        return length == 0 ? "[]" : "[" + (element + ",").repeat(length - 1) + element + "]";
    }

    private static void anActualBody(Sentences due) {
        due.by("Takes the text as an actual body of an interaction.");
        Desk desk = Desk.with(true, "{\"a\":1}");
        desk.make(false);
        desk.body(1, "[1]");
        due.due("verify(0)", desk.verify(0, "{\"a\":1}"), 0);
        due.due("verify(1)", desk.verify(1, "[1]"), 0);
        due.due("verify(0) of the other's", desk.verify(0, "[1]"), 1);
        due.due("verify(1) of the other's", desk.verify(1, "{\"a\":1}"), 1);
        due.due("the body stays", desk.body(0, "{\"a\":1}"), 2);
        due.due("the smallest text", desk.verify(0, "0"), 1);
        due.due("a text of 100", desk.verify(1, "[1," + "1,".repeat(47) + "-1]"), 1);
    }

    private static void settingUpFails(Sentences due) {
        due.by("The states that it needs are set up, in order; if that fails for one, those that were set up before "
                + "are torn down, the latest first: -3.");
        int[] states = {4, 1, 3};
        String[][] wanted = {{"42"}, {"40 12 41", "40 12 43"}, {"40 10 32 11 41", "40 10 32 13 41", "40 10 32 11 43"}};
        int[][][] handlers = {{{2, 1, 1}}, {{1, 2, 1}, {3, 2, 1}}, {{1, 1, 2}, {1, 3, 2}, {3, 1, 2}}};
        for (int failing = 0; failing < 3; failing++) {
            for (int i = 0; i < wanted[failing].length; i++) {
                for (int none = 0; none < 2; none++) {
                    Desk desk = needing(states, handlers[failing][i]);
                    if (none == 1) {
                        desk.handler(states[failing], 0);
                    }
                    due.due("verify where state " + states[failing] + " fails", desk.verify(0, "1"), -3);
                    due.due("the events", desk.events(), wanted[failing][i]);
                }
            }
        }
        due.due("verify where none fails", needing(states, new int[] {1, 3, 1}).verify(0, "1"), 0);
        Desk listed = Desk.with(false, "[1,2]");
        listed.verify(0, "[2,1]");
        listed.needs(0, 0);
        due.due("verify where the state has no handler", listed.verify(0, "[1,3]"), -3);
        due.due("what was listed before", listed.listing(), "1$[0] 1$[1]");
        due.due("verify of what is equal", listed.verify(0, "[1,2]"), -3);
        due.due("what is still listed", listed.listing(), "1$[0] 1$[1]");
    }

    private static Desk needing(int[] states, int[] handlers) {
        Desk desk = Desk.with(false, "1");
        for (int i = 0; i < states.length; i++) {
            desk.needs(0, states[i]);
            desk.handler(states[i], handlers[i]);
        }
        return desk;
    }

    private static void howManyMismatches(Sentences due) {
        due.by("Otherwise the bodies are compared: how many mismatches; these are what is LISTED from now on, in the "
                + "order in which they were found, at most 30 of them.");
        for (int wrong = 0; wrong <= 48; wrong++) {
            Desk desk = Desk.with(false, row(48, "1"));
            String actual = "[" + "2,".repeat(wrong) + "1,".repeat(48 - wrong);
            due.due("verify with " + wrong, desk.verify(0, actual.substring(0, actual.length() - 1) + "]"), wrong);
            int listed = Math.min(wrong, 30);
            due.due("how many are listed of " + wrong, desk.listed(), listed);
            for (int k = 0; k < 32; k++) {
                due.due("mismatch " + k + " of " + wrong, desk.mismatch(k), k < listed ? 1 : -1);
                due.due("its place", desk.place(k), k < listed ? "$[" + k + "]" : "");
            }
        }
        moreThanTheTextHasValues(due);
        onlyTheLatest(due);
    }

    private static void moreThanTheTextHasValues(Sentences due) {
        // Ten members are missing in each of 33 elements, which are all compared with the one expected.
        String ten = "[{\"a\":1,\"b\":1,\"c\":1,\"d\":1,\"e\":1,\"f\":1,\"g\":1,\"h\":1,\"i\":1,\"j\":1}]";
        Desk desk = Desk.with(false, ten, "$:t");
        due.due("verify with 330", desk.verify(0, row(33, "{}")), 330);
        due.due("how many are listed of 330", desk.listed(), 30);
        due.due("the first", desk.place(0), "$[0].a");
        due.due("the tenth", desk.place(9), "$[0].j");
        due.due("the eleventh", desk.place(10), "$[1].a");
        due.due("the thirtieth", desk.place(29), "$[2].j");
        due.due("one behind it", desk.mismatch(30), -1);
        due.due("verify with 30", desk.verify(0, row(3, "{}")), 30);
        due.due("how many are listed of 30", desk.listed(), 30);
    }

    private static void onlyTheLatest(Sentences due) {
        Desk desk = Desk.with(false, "[1,2,3]");
        due.due("verify with three", desk.verify(0, "[0,0,0]"), 3);
        due.due("verify with two", desk.verify(0, "[1,0,0]"), 2);
        due.due("what is listed", desk.listing(), "1$[1] 1$[2]");
        due.due("verify that throws", desk.verify(0, "[1,0,0"), Desk.ARGUMENT);
        due.due("what is still listed", desk.listing(), "1$[1] 1$[2]");
        due.due("verify with none", desk.verify(0, "[1,2,3]"), 0);
        due.due("that nothing is listed", desk.listing(), "");
        due.due("mismatch(0)", desk.mismatch(0), -1);
    }

    private static void allAreTornDown(Sentences due) {
        due.by("Then all states are torn down, the latest first, whether that fails for one of them or not.");
        int[] states = {2, 5, 0};
        for (int code = 0; code < 8; code++) {
            int[] handlers = {code / 4 == 1 ? 3 : 1, code / 2 % 2 == 1 ? 3 : 1, code % 2 == 1 ? 3 : 1};
            String wanted = "20 50 0 " + handlers[2] + " " + (50 + handlers[1]) + " " + (20 + handlers[0]);
            Desk desk = needing(states, handlers);
            due.due("verify of what matches", desk.verify(0, "1"), 0);
            due.due("the events", desk.events(), wanted);
            due.due("verify of what does not", desk.verify(0, "2"), 1);
            due.due("the events", desk.events(), wanted + " " + wanted);
            due.due("what is listed", desk.listing(), "1$");
        }
        for (int count = 0; count <= 3; count++) {
            Desk desk = Desk.with(false, "1");
            for (int state = 0; state < count; state++) {
                desk.needs(0, state);
                desk.handler(state, 3);
            }
            due.due("verify with " + count + " states", desk.verify(0, "1"), 0);
            due.due("how many events", desk.event(-1), 2 * count);
        }
    }

    private static void whatIsThrown(Sentences due) {
        due.by("IllegalArgumentException if there is no such interaction, or the text is no value; "
                + "IllegalStateException if it has no body. (The one named first, if both hold.)");
        int[] numbers = {Integer.MIN_VALUE, -1, 0, 1, 2, 3, 4, 5, Integer.MAX_VALUE};
        for (int made = 0; made <= 4; made++) {
            for (int number : numbers) {
                Desk desk = new Desk();
                for (int i = 0; i < made; i++) {
                    desk.make(false);
                }
                boolean there = number >= 0 && number < made;
                String what = "verify(" + number + ") of " + made;
                due.due(what + " without a body", desk.verify(number, "1"), there ? Desk.STATE : Desk.ARGUMENT);
                due.due(what + " without a body, of no value", desk.verify(number, "1 "), Desk.ARGUMENT);
                due.due(what + " without a body, of nothing", desk.verify(number, ""), Desk.ARGUMENT);
                desk.body(number, "1");
                due.due(what, desk.verify(number, "1"), there ? 0 : Desk.ARGUMENT);
                due.due(what + " of no value", desk.verify(number, "1]"), Desk.ARGUMENT);
            }
        }
        Desk states = new Desk();
        states.make(false);
        states.needs(0, 0);
        due.due("without a body, before the state fails", states.verify(0, "1"), Desk.STATE);
        due.due("of no value, before the state fails", states.verify(0, "x"), Desk.ARGUMENT);
        due.due("no events", states.event(-1), 0);
    }
}
