/** What the document says of listed, mismatch and letter. */
final class ListingSentences {
    private static final int[] FAR = {Integer.MIN_VALUE, -30, -2, -1, 30, 31, 100, Integer.MAX_VALUE};

    private ListingSentences() {
    }

    static void test(Sentences due) {
        listed(due);
        mismatch(due);
        letter(due);
    }

    private static void listed(Sentences due) {
        due.by("How many mismatches are listed.");
        due.due("of a new desk", new Desk().listed(), 0);
        String expected = "[" + "1,".repeat(31) + "1]";
        for (int wrong = 0; wrong <= 32; wrong++) {
            Desk desk = Desk.with(false, expected);
            due.due("before verify", desk.listed(), 0);
            String actual = "[" + "2,".repeat(wrong) + "1,".repeat(32 - wrong);
            desk.verify(0, actual.substring(0, actual.length() - 1) + "]");
            due.due("after " + wrong, desk.listed(), Math.min(wrong, 30));
            due.due("once more", desk.listed(), Math.min(wrong, 30));
        }
    }

    private static Desk withFive() {
        Desk desk = Desk.with(true, "{\"a\":1,\"b\":[1],\"c\":1,\"d\":1}", "$.d:0");
        desk.verify(0, "{\"a\":2,\"b\":[],\"d\":1,\"e\":1}");
        return desk;
    }

    private static void mismatch(Sentences due) {
        due.by("The kind of mismatch k, from 0 on; NONE if there is none.");
        Desk desk = withFive();
        int[] kinds = {1, 2, 3, 5, 4};
        for (int k = 0; k < kinds.length; k++) {
            due.due("mismatch(" + k + ") of five", desk.mismatch(k), kinds[k]);
        }
        due.due("mismatch(5) of five", desk.mismatch(5), -1);
        for (int k : FAR) {
            due.due("mismatch(" + k + ") of five", desk.mismatch(k), -1);
            due.due("mismatch(" + k + ") of a new desk", new Desk().mismatch(k), -1);
        }
        due.due("mismatch(0) of a new desk", new Desk().mismatch(0), -1);
        Desk full = Desk.with(false, "[" + "1,".repeat(39) + "1]");
        full.verify(0, "[" + "2,".repeat(39) + "2]");
        due.due("mismatch(29) of forty", full.mismatch(29), 1);
        for (int k : FAR) {
            due.due("mismatch(" + k + ") of forty", full.mismatch(k), -1);
        }
    }

    private static void letter(Sentences due) {
        due.by("The code of character i of the place of mismatch k; NONE if there is none.");
        Desk desk = withFive();
        String[] places = {"$.a", "$.b", "$.c", "$.d", "$.e"};
        for (int k = 0; k < places.length; k++) {
            lettersOf(due, desk, k, places[k]);
        }
        for (int number : FAR) {
            due.due("letter(" + number + ", 0)", desk.letter(number, 0), -1);
            due.due("letter(4, " + number + ")", desk.letter(4, number), -1);
            due.due("letter(" + number + ", 0) of a new desk", new Desk().letter(number, 0), -1);
        }
        due.due("letter(5, 0) of five", desk.letter(5, 0), -1);
        due.due("letter(0, 0) of a new desk", new Desk().letter(0, 0), -1);

        Desk whole = Desk.with(false, "[[[[[1]]]]]");
        whole.verify(0, "[[[[[2]]]]]");
        lettersOf(due, whole, 0, "$[0][0][0][0][0]");
        whole.verify(0, "2");
        lettersOf(due, whole, 0, "$");
        Desk full = Desk.with(false, "[" + "1,".repeat(39) + "1]");
        full.verify(0, "[" + "2,".repeat(39) + "2]");
        lettersOf(due, full, 9, "$[9]");
        lettersOf(due, full, 10, "$[10]");
        lettersOf(due, full, 29, "$[29]");
        due.due("letter(30, 0) of forty", full.letter(30, 0), -1);
        due.due("letter(39, 0) of forty", full.letter(39, 0), -1);
    }

    private static void lettersOf(Sentences due, Desk desk, int k, String place) {
        due.due("letter(" + k + ", -1)", desk.letter(k, -1), -1);
        for (int i = 0; i < place.length(); i++) {
            due.due("letter(" + k + ", " + i + ") of " + place, desk.letter(k, i), (int) place.charAt(i));
        }
        due.due("letter(" + k + ", " + place.length() + ") of " + place, desk.letter(k, place.length()), -1);
    }
}
