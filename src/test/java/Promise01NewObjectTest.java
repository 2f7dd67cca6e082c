public final class Promise01NewObjectTest {
    public static void main(String[] args) {
        Check check = new Check();
        nothingIsThere(check);
        theTextIsEmpty(check);
        noStateHasAHandler(check);
        objectsDoNotShare(check);
        check.finish();
    }

    private static void nothingIsThere(Check check) {
        ContractDesk face = new ContractDesk();
        check.due("NONE", ContractDesk.NONE, -1);
        check.due("listed()", face.listed(), 0);
        check.due("event(-1)", face.event(-1), 0);
        check.due("event(0)", face.event(0), -1);
        check.due("mismatch(0)", face.mismatch(0), -1);
        check.due("letter(0, 0)", face.letter(0, 0), -1);
        check.due("needs(0, 0)", face.needs(0, 0), false);
        Desk desk = new Desk();
        check.due("select(0)", desk.select(0, "$"), -1);
        check.due("body(0)", desk.body(0, "1"), Desk.ARGUMENT);
        check.due("rule(0)", desk.rule(0, "$:t"), Desk.ARGUMENT);
        check.due("verify(0)", desk.verify(0, "1"), Desk.ARGUMENT);
        check.due("make", desk.make(false), 0);
    }

    private static void theTextIsEmpty(Check check) {
        Desk desk = new Desk();
        desk.make(false);
        check.due("body of the first text", desk.body(0, ""), Desk.ARGUMENT);
        check.due("body of 1", desk.body(0, "1"), 1);
    }

    private static void noStateHasAHandler(Check check) {
        for (int state = 0; state < 6; state++) {
            Desk desk = Desk.with(false, "1");
            desk.needs(0, state);
            check.due("verify without a handler", desk.verify(0, "1"), -3);
            check.due("its event", desk.events(), 10 * state + 2);
        }
    }

    private static void objectsDoNotShare(Check check) {
        Desk one = Desk.with(false, "1", "$:t");
        one.handler(0, 1);
        one.needs(0, 0);
        one.verify(0, "null");
        one.text("$");
        nothingIsThere(check);
        theTextIsEmpty(check);
        noStateHasAHandler(check);
        check.due("listing of the first", one.listing(), "5$");
        check.due("events of the first", one.events(), "0 1");
    }
}
