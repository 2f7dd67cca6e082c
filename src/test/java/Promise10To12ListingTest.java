/** listed, mismatch and letter. */
public final class Promise10To12ListingTest {
    public static void main(String[] args) {
        Check check = new Check();
        listedFollowsVerify(check);
        kindsAreTold(check);
        lettersAreTold(check);
        wrongNumbersGetNone(check);
        check.finish();
    }

    private static void listedFollowsVerify(Check check) {
        Desk desk = Desk.with(false, "[1,2,3]");
        check.due("listed at first", desk.listed(), 0);
        desk.verify(0, "[2,2,2]");
        check.due("listed after two", desk.listed(), 2);
        desk.verify(0, "[2,3,4]");
        check.due("listed after three", desk.listed(), 3);
        desk.verify(0, "[1,2]");
        check.due("listed after one", desk.listing(), "2$");
        check.due("mismatch 1 is gone", desk.mismatch(1), -1);
        check.due("letters of mismatch 1 are gone", desk.letter(1, 0), -1);
        desk.verify(0, "[1,2,3]");
        check.due("listed after none", desk.listed(), 0);
        check.due("mismatch 0 is gone", desk.mismatch(0), -1);
        check.due("letters of mismatch 0 are gone", desk.letter(0, 0), -1);
        desk.make(true);
        desk.body(1, "{\"a\":1}");
        desk.verify(1, "{\"b\":1}");
        check.due("listed for another interaction", desk.listing(), "3$.a 4$.b");
    }

    private static void kindsAreTold(Check check) {
        Desk desk = Desk.with(true, "{\"a\":1,\"b\":[1],\"c\":1,\"d\":1}", "$.d:0");
        check.due("verify", desk.verify(0, "{\"a\":2,\"b\":[],\"d\":1,\"e\":1}"), 5);
        int[] due = {1, 2, 3, 5, 4};
        for (int k = 0; k < due.length; k++) {
            check.due("mismatch(" + k + ")", desk.mismatch(k), due[k]);
        }
        check.due("mismatch(5)", desk.mismatch(5), -1);
    }

    private static void lettersAreTold(Check check) {
        Desk desk = Desk.with(true, "{\"z\":[[[{\"a\":1}]]]}");
        desk.verify(0, "{\"z\":[[[{\"a\":2}]]]}");
        String due = "$.z[0][0][0].a";
        for (int i = 0; i < due.length(); i++) {
            check.due("letter(0, " + i + ")", desk.letter(0, i), (int) due.charAt(i));
        }
        check.due("letter behind the last", desk.letter(0, due.length()), -1);
        desk.verify(0, "null");
        check.due("the first letter of a shorter place", desk.letter(0, 0), (int) '$');
        check.due("no second letter", desk.letter(0, 1), -1);

        Desk wide = Desk.with(true, "[" + "0,".repeat(47) + "[0]]");
        wide.verify(0, "[" + "0,".repeat(47) + "[1]]");
        check.due("a number of two digits", wide.listing(), "1$[47][0]");
    }

    private static void wrongNumbersGetNone(Check check) {
        Desk desk = Desk.with(false, "1");
        desk.verify(0, "2");
        int[] wrong = {-1, 1, 29, 30, 31, Integer.MIN_VALUE, Integer.MAX_VALUE};
        for (int number : wrong) {
            check.due("mismatch(" + number + ")", desk.mismatch(number), -1);
            check.due("letter(" + number + ", 0)", desk.letter(number, 0), -1);
            check.due("letter(0, " + number + ")", desk.letter(0, number), -1);
        }
        check.due("mismatch(0)", desk.mismatch(0), 1);
        check.due("letter(0, 0)", desk.letter(0, 0), (int) '$');
    }
}
