/** What the document says of an object as a whole. */
final class ObjectSentences {
    private ObjectSentences() {
    }

    static void test(Sentences due) {
        aDeskForContracts(due);
        atMost512Calls(due);
        whatThrowsChangesNothing(due);
        none(due);
        aNewObject(due);
    }

    private static void aDeskForContracts(Sentences due) {
        due.by("A desk for contracts between programs: interactions with an expected body and rules for places in it "
                + "are declared, actual bodies are compared with them place by place, after the states that an "
                + "interaction needs were set up, and what does not match is listed.");
        Desk desk = Desk.with(true, "{\"a\":1,\"b\":[]}", "$.a:i");
        desk.needs(0, 4);
        desk.handler(4, 1);
        due.due("verify", desk.verify(0, "{\"a\":2,\"b\":[1],\"c\":0}"), 2);
        due.due("what is listed", desk.listing(), "2$.b 4$.c");
        due.due("the events", desk.events(), "40 41");
    }

    private static void atMost512Calls(Sentences due) {
        due.by("An object is used for at most 512 calls after it has been made; what later calls answer is free.");
        theLastCallIsAsGoodAsTheFirst(due);
        asManyEventsAsCanBe(due);
        Desk making = new Desk();
        for (int i = 0; making.callsLeft() > 0; i++) {
            due.due("make number " + i, making.make(false), i < 4 ? i : Desk.STATE);
        }
        Desk writing = new Desk();
        for (int i = 0; writing.callsLeft() > 0; i++) {
            due.due("write number " + i, writing.write('1'), i < 100);
        }
    }

    /** A desk that was asked until only so many calls are left. */
    private static Desk worn(int callsLeft) {
        Desk desk = Desk.with(false, "1", "$:t");
        desk.needs(0, 5);
        desk.handler(5, 1);
        desk.verify(0, "null");
        while (desk.callsLeft() > callsLeft) {
            desk.listed();
        }
        return desk;
    }

    private static void theLastCallIsAsGoodAsTheFirst(Sentences due) {
        due.due("write as the last call", worn(1).write('1'), true);
        due.due("make as the last call", worn(1).make(false), 1);
        due.due("body as the last call", worn(2).body(0, "1"), 1);
        due.due("body as the last call, refused", worn(2).body(0, "2"), Desk.STATE);
        due.due("rule as the last call", worn(2).rule(0, "$.a:t"), 1);
        due.due("needs as the last call", worn(1).needs(0, 1), true);
        due.due("handler as the last call", worn(1).handler(0, 1), true);
        due.due("select as the last call", worn(2).select(0, "$.a"), 0);
        due.due("verify as the last call", worn(2).verify(0, "2"), 0);
        due.due("verify as the last call, refused", worn(2).verify(0, "x"), Desk.ARGUMENT);
        due.due("listed as the last call", worn(1).listed(), 1);
        due.due("mismatch as the last call", worn(1).mismatch(0), 5);
        due.due("letter as the last call", worn(1).letter(0, 0), (int) '$');
        due.due("event as the last call", worn(1).event(1), 51);
    }

    private static void asManyEventsAsCanBe(Sentences due) {
        due.due("how many events after 511 calls", withAllEvents().event(-1), 1506);
        due.due("the first of them", withAllEvents().event(0), 0);
        due.due("the last of them", withAllEvents().event(1505), 3);
        due.due("one behind it", withAllEvents().event(1506), -1);
    }

    /** A desk with one call left, the other ones of which led to as many events as calls can. */
    private static Desk withAllEvents() {
        Desk desk = Desk.with(false, "1");
        for (int state = 0; state < 3; state++) {
            desk.needs(0, state);
            desk.handler(state, 3);
        }
        while (desk.callsLeft() > 1) {
            desk.verify(0, "1");
        }
        return desk;
    }

    private static void whatThrowsChangesNothing(Sentences due) {
        due.by("What throws changes nothing (but the text, where it takes that).");
        String before = answersOf(busy());
        Desk made = busy();
        made.text("1");
        due.due("make", made.make(true), Desk.STATE);
        due.due("the text that make does not take", made.body(2, ""), 1);
        Desk madeToo = busy();
        due.due("make", madeToo.make(true), Desk.STATE);
        due.due("all answers after make", answersOf(madeToo), before);

        String[][] bodies = {{"4", "1", Desk.ARGUMENT}, {"-1", "1", Desk.ARGUMENT}, {"0", "x", Desk.ARGUMENT},
            {"2", "", Desk.ARGUMENT}, {"2", "[1", Desk.ARGUMENT}, {"0", "{\"a\":[2]}", Desk.STATE}, {"1", "2",
            Desk.STATE}};
        for (String[] call : bodies) {
            Desk desk = busy();
            due.due("body(" + call[0] + ") of " + call[1], desk.body(Integer.parseInt(call[0]), call[1]), call[2]);
            due.due("all answers after body of " + call[1], answersOf(desk), before);
        }
        String[][] rules = {{"4", "$:t", Desk.ARGUMENT}, {"-1", "$:t", Desk.ARGUMENT}, {"1", "$:", Desk.ARGUMENT},
            {"1", "", Desk.ARGUMENT}, {"1", "$:t&", Desk.ARGUMENT}, {"0", "$.a:0", Desk.STATE}};
        for (String[] call : rules) {
            Desk desk = busy();
            due.due("rule(" + call[0] + ") of " + call[1], desk.rule(Integer.parseInt(call[0]), call[1]), call[2]);
            due.due("all answers after rule of " + call[1], answersOf(desk), before);
        }
        String[][] actual = {{"4", "1", Desk.ARGUMENT}, {"-1", "1", Desk.ARGUMENT}, {"1", "x", Desk.ARGUMENT},
            {"1", "", Desk.ARGUMENT}, {"1", "[2", Desk.ARGUMENT}, {"2", "1", Desk.STATE}};
        for (String[] call : actual) {
            Desk desk = busy();
            due.due("verify(" + call[0] + ") of " + call[1], desk.verify(Integer.parseInt(call[0]), call[1]), call[2]);
            due.due("all answers after verify of " + call[1], answersOf(desk), before);
        }
    }

    /** A desk that has something of everything, and where another interaction or rule 8 of 0 is refused. */
    private static Desk busy() {
        Desk desk = Desk.with(true, "{\"a\":[1]}", "$.a:t", "$.*:=", "$[7]:t", "$.b:t", "$.c:t", "$.d:t", "$.e:t",
                "$.f:t");
        desk.make(false);
        desk.body(1, "1");
        desk.make(true);
        desk.make(false);
        desk.body(3, "{}");
        for (int state = 0; state < 2; state++) {
            desk.needs(1, state);
            desk.handler(state, 1 + 2 * state);
        }
        desk.needs(2, 1);
        desk.needs(3, 5);
        desk.verify(1, "1");
        desk.verify(0, "{\"a\":[null],\"b\":1}");
        return desk;
    }

    /** What a desk answers when everything that can be told of it is asked. */
    private static String answersOf(Desk desk) {
        StringBuilder answers = new StringBuilder(desk.listing()).append('/').append(desk.events());
        answers.append('/').append(desk.make(false));
        for (int n = 0; n < 5; n++) {
            answers.append('/').append(desk.select(n, "$")).append(desk.select(n, "$.a")).append(desk.select(n,
                    "$[7]"));
            answers.append('/').append(desk.verify(n, "1")).append(' ').append(desk.listing());
            answers.append('/').append(desk.verify(n, "{\"b\":1}")).append(' ').append(desk.listing());
            answers.append('/').append(desk.body(n, "7")).append(' ').append(desk.verify(n, "{\"a\":[2]}"));
            answers.append('/').append(desk.rule(n, "$:t"));
            for (int state = 0; state < 6; state++) {
                answers.append(desk.needs(n, state) ? "+" : "-");
            }
        }
        return answers.append('/').append(desk.events()).append('/').append(desk.room()).toString();
    }

    private static void none(Sentences due) {
        due.by("The constants: `NONE = -1`: The answer to questions about what is not there.");
        due.due("NONE", ContractDesk.NONE, -1);
        Desk desk = Desk.with(false, "1", "$.a:t");
        desk.needs(0, 1);
        desk.handler(1, 1);
        desk.verify(0, "2");
        due.due("select of what has no rule", desk.select(0, "$"), ContractDesk.NONE);
        due.due("select of what has one", desk.select(0, "$.a"), 0);
        due.due("mismatch(1) of one", desk.mismatch(1), ContractDesk.NONE);
        due.due("mismatch(0) of one", desk.mismatch(0), 1);
        due.due("letter(0, 1) of one", desk.letter(0, 1), ContractDesk.NONE);
        due.due("letter(0, 0) of one", desk.letter(0, 0), (int) '$');
        due.due("event(2) of two", desk.event(2), ContractDesk.NONE);
        due.due("event(1) of two", desk.event(1), 11);
    }

    private static void aNewObject(Sentences due) {
        due.by("No interactions, no events.");
        int[] numbers = {Integer.MIN_VALUE, -1, 0, 1, 3, 4, Integer.MAX_VALUE};
        for (int number : numbers) {
            due.due("body(" + number + ")", new Desk().body(number, "1"), Desk.ARGUMENT);
            due.due("rule(" + number + ")", new Desk().rule(number, "$:t"), Desk.ARGUMENT);
            due.due("verify(" + number + ")", new Desk().verify(number, "1"), Desk.ARGUMENT);
            due.due("select(" + number + ")", new Desk().select(number, "$"), -1);
            due.due("needs(" + number + ", 0)", new Desk().needs(number, 0), false);
            due.due("event(" + number + ")", new Desk().event(number), number == -1 ? 0 : -1);
            due.due("mismatch(" + number + ")", new Desk().mismatch(number), -1);
            due.due("letter(" + number + ", 0)", new Desk().letter(number, 0), -1);
        }
        due.due("listed()", new Desk().listed(), 0);
        due.due("the first make", new Desk().make(false), 0);
        Desk first = Desk.with(false, "1");
        first.needs(0, 0);
        first.verify(0, "1");
        due.due("how many events after the first", first.event(-1), 1);
        due.due("how many events of another desk", new Desk().event(-1), 0);
        due.due("body of another desk", new Desk().body(0, "1"), Desk.ARGUMENT);
    }
}
