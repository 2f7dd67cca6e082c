/** What the document says of interactions, make and needs. */
final class InteractionSentences {
    private InteractionSentences() {
    }

    static void test(Sentences due) {
        numberedAsTheyAreMade(due);
        aBodyOrNoneYet(due);
        atMostEightRules(due);
        atMostThreeStates(due);
        aNewOne(due);
        theFifth(due);
        oneMoreState(due);
        refusedStates(due);
    }

    private static void numberedAsTheyAreMade(Sentences due) {
        due.by("INTERACTIONS are numbered 0, 1, .. as they are made, at most 4;");
        Desk desk = new Desk();
        for (int i = 0; i < 4; i++) {
            due.due("body(" + i + ") before it is made", desk.body(i, "1"), Desk.ARGUMENT);
            due.due("make", desk.make(i % 2 == 1), i);
            due.due("body(" + i + ")", desk.body(i, String.valueOf(i)), 1);
        }
        due.due("the fifth make", desk.make(true), Desk.STATE);
        due.due("body(4)", desk.body(4, "4"), Desk.ARGUMENT);
        for (int i = 0; i < 4; i++) {
            due.due("verify(" + i + ")", desk.verify(i, String.valueOf(i)), 0);
            due.due("verify(" + i + ") of another's", desk.verify(i, String.valueOf(i + 1)), 1);
        }
    }

    private static void aBodyOrNoneYet(Sentences due) {
        due.by("each has a body or none yet,");
        Desk desk = new Desk();
        desk.make(false);
        desk.make(false);
        due.due("verify without a body", desk.verify(1, "null"), Desk.STATE);
        due.due("body of the other", desk.body(0, "null"), 1);
        due.due("still without a body", desk.verify(1, "null"), Desk.STATE);
        due.due("body", desk.body(1, "null"), 1);
        due.due("verify with a body", desk.verify(1, "null"), 0);
    }

    private static void atMostEightRules(Sentences due) {
        due.by("at most 8 rules,");
        Desk desk = new Desk();
        for (int n = 0; n < 4; n++) {
            desk.make(false);
            for (int i = 0; i < 9; i++) {
                due.due("rule(" + n + ") number " + i, desk.rule(n, "$[" + i + "]:0"), i < 8 ? i : Desk.STATE);
            }
        }
        for (int n = 0; n < 4; n++) {
            for (int i = 0; i < 10; i++) {
                due.due("select(" + n + ") of $[" + i + "]", desk.select(n, "$[" + i + "]"), i < 8 ? i : -1);
            }
        }
        desk.body(3, "[1,1,1,1,1,1,1,1,1]");
        desk.verify(3, "[1,1,1,1,1,1,1,1,1]");
        due.due("what eight rules list", desk.listing(), "5$[0] 5$[1] 5$[2] 5$[3] 5$[4] 5$[5] 5$[6] 5$[7]");
    }

    private static Desk withGoodHandlers(int interactions) {
        Desk desk = new Desk();
        for (int n = 0; n < interactions; n++) {
            desk.make(false);
            desk.body(n, "1");
        }
        for (int state = 0; state < 6; state++) {
            desk.handler(state, 1);
        }
        return desk;
    }

    private static void atMostThreeStates(Sentences due) {
        due.by("and NEEDS at most 3 states, in the order in which that was said.");
        for (int first = 0; first < 6; first++) {
            for (int second = 0; second < 6; second++) {
                for (int third = 0; third < 6; third++) {
                    if (first != second && first != third && second != third) {
                        threeStates(due, first, second, third);
                    }
                }
            }
        }
        Desk none = withGoodHandlers(1);
        none.verify(0, "1");
        due.due("the events of no states", none.events(), "");
    }

    private static void threeStates(Sentences due, int first, int second, int third) {
        Desk desk = withGoodHandlers(1);
        String told = " of " + first + second + third;
        due.due("the first" + told, desk.needs(0, first), true);
        due.due("the second" + told, desk.needs(0, second), true);
        due.due("the third" + told, desk.needs(0, third), true);
        for (int state = 0; state < 6; state++) {
            due.due("needs(0, " + state + ") as a fourth" + told, desk.needs(0, state), false);
        }
        desk.verify(0, "1");
        String setUp = 10 * first + " " + 10 * second + " " + 10 * third;
        String tornDown = 10 * third + 1 + " " + (10 * second + 1) + " " + (10 * first + 1);
        due.due("the events" + told, desk.events(), setUp + " " + tornDown);
    }

    private static void aNewOne(Sentences due) {
        due.by("Makes a new interaction, strict or not, without a body: its number.");
        for (int strict = 0; strict < 16; strict++) {
            Desk desk = new Desk();
            for (int n = 0; n < 4; n++) {
                due.due("make", desk.make((strict >> n & 1) == 1), n);
                due.due("verify(" + n + ") without a body", desk.verify(n, "{}"), Desk.STATE);
                due.due("select(" + n + ") without a rule", desk.select(n, "$"), -1);
                due.due("body(" + n + ")", desk.body(n, "{}"), 1);
                due.due("rule(" + n + ")", desk.rule(n, "$:t"), 0);
                due.due("needs(" + n + ", 0)", desk.needs(n, 0), true);
            }
            desk.handler(0, 1);
            for (int n = 0; n < 4; n++) {
                due.due("verify(" + n + ") of one that is strict or not", desk.verify(n, "{\"a\":1}"), strict >> n & 1);
            }
        }
    }

    private static void theFifth(Sentences due) {
        due.by("IllegalStateException if there are 4.");
        for (int made = 0; made <= 6; made++) {
            Desk desk = new Desk();
            for (int i = 0; i < made; i++) {
                desk.make(true);
            }
            due.due("make, where " + made + " were asked for", desk.make(false), made < 4 ? made : Desk.STATE);
        }
        Desk strict = new Desk();
        for (int i = 0; i < 4; i++) {
            strict.make(true);
        }
        due.due("the fifth, not strict", strict.make(false), Desk.STATE);
        strict.body(3, "{}");
        due.due("the fourth is strict as it was", strict.verify(3, "{\"a\":1}"), 1);
        due.due("the fourth has its body", strict.body(3, "{}"), 1);
    }

    private static void oneMoreState(Sentences due) {
        due.by("An interaction needs one more state: true.");
        for (int state = 0; state < 6; state++) {
            Desk desk = withGoodHandlers(2);
            due.due("needs(1, " + state + ")", desk.needs(1, state), true);
            desk.verify(0, "1");
            due.due("the other does not need it", desk.event(-1), 0);
            desk.verify(1, "1");
            due.due("the events", desk.events(), 10 * state + " " + (10 * state + 1));
            due.due("the other needs it too", desk.needs(0, state), true);
        }
        Desk noBody = new Desk();
        noBody.make(false);
        due.due("needs without a body or handler", noBody.needs(0, 5), true);
    }

    private static void refusedStates(Sentences due) {
        due.by("False if there is no such interaction or state, it needs that already, or it needs 3.");
        int[] wrong = {Integer.MIN_VALUE, -2, -1, 6, 7, 10, Integer.MAX_VALUE};
        Desk desk = withGoodHandlers(2);
        for (int number : wrong) {
            due.due("needs(0, " + number + ")", desk.needs(0, number), false);
            due.due("needs(" + number + ", 0)", desk.needs(number, 0), false);
        }
        due.due("needs(2, 0) of two", desk.needs(2, 0), false);
        due.due("needs(1, 0) of two", desk.needs(1, 0), true);
        due.due("needs(0, 4)", desk.needs(0, 4), true);
        due.due("needs(0, 4) again", desk.needs(0, 4), false);
        due.due("needs(0, 2)", desk.needs(0, 2), true);
        due.due("needs(0, 4) after another", desk.needs(0, 4), false);
        due.due("needs(0, 2) again", desk.needs(0, 2), false);
        due.due("needs(0, 5) as the third", desk.needs(0, 5), true);
        due.due("needs(0, 3) as the fourth", desk.needs(0, 3), false);
        due.due("needs(0, 4) with three", desk.needs(0, 4), false);
        due.due("needs(1, 3) of the other", desk.needs(1, 3), true);
        desk.verify(0, "1");
        due.due("the events of three", desk.events(), "40 20 50 51 21 41");
        due.due("needs of a desk without interactions", new Desk().needs(0, 0), false);
    }
}
