public final class Promise02WriteTest {
    public static void main(String[] args) {
        Check check = new Check();
        bytesComeFromTheHighestOn(check);
        zeroBytesAreLeftOut(check);
        codesHaveBounds(check);
        aRefusedWordChangesNothing(check);
        thereIsRoomForAHundred(check);
        check.finish();
    }

    /** What body answers to the text that was written so far. */
    private static String bodyOfText(Desk desk) {
        desk.make(false);
        return desk.body(0, "");
    }

    private static void bytesComeFromTheHighestOn(Check check) {
        Desk desk = new Desk();
        check.due("write of [\"abcde\"", desk.write(Desk.word("[\"abcde\"")), true);
        check.due("write of ,null,1]", desk.write(Desk.word(",null,1]")), true);
        check.due("body of both", bodyOfText(desk), 4);
        check.due("the same again", desk.body(0, "[\"abcde\",null,1]"), 4);
        check.due("another order", desk.body(0, "[\"edcba\",null,1]"), Desk.STATE);
    }

    private static void zeroBytesAreLeftOut(Check check) {
        long[] words = {0x3100000000000000L, 0x0000000000000031L, 0x0000003100000000L};
        for (long word : words) {
            Desk desk = new Desk();
            check.due("write(" + word + ")", desk.write(word), true);
            check.due("body of it", bodyOfText(desk), 1);
            check.due("body of 1", desk.body(0, "1"), 1);
        }
        Desk apart = new Desk();
        check.due("write of 1, 2, 3 apart", apart.write(0x0031003200000033L), true);
        check.due("body of it", bodyOfText(apart), 1);
        check.due("body of 123", apart.body(0, "123"), 1);
        Desk none = new Desk();
        check.due("write(0)", none.write(0), true);
        check.due("body of nothing", bodyOfText(none), Desk.ARGUMENT);
    }

    private static void codesHaveBounds(Check check) {
        for (int code = 1; code < 256; code++) {
            for (int shift = 0; shift < 64; shift += 8) {
                boolean due = code >= 32 && code <= 126;
                check.due("write of code " + code + " at " + shift,
                        new ContractDesk().write((long) code << shift), due);
            }
        }
        check.due("write(-1)", new ContractDesk().write(-1), false);
        check.due("write(MIN_VALUE)", new ContractDesk().write(Long.MIN_VALUE), false);
        check.due("write(MAX_VALUE)", new ContractDesk().write(Long.MAX_VALUE), false);
    }

    private static void aRefusedWordChangesNothing(Check check) {
        Desk desk = new Desk();
        desk.text("12");
        check.due("write of 3 and 31", desk.write(0x331f), false);
        check.due("write of 127 and 3", desk.write(0x7f33), false);
        check.due("write of 3 and 200", desk.write(0x33c8), false);
        check.due("body of what was there", bodyOfText(desk), 1);
        check.due("body of 12", desk.body(0, "12"), 1);
    }

    private static void thereIsRoomForAHundred(Check check) {
        // 49 elements take 99 characters, 50 would take 101; -1 for one of them makes 100.
        String full = "[" + "1,".repeat(48) + "-1]";
        Desk desk = new Desk();
        check.due("text of 100", desk.text(full), true);
        check.due("write of one more", desk.write('1'), false);
        check.due("write of none more", desk.write(0), true);
        check.due("body of 100", bodyOfText(desk), 50);
        check.due("text of 100 after it was taken", desk.text(full), true);
        check.due("the same body", desk.body(0, ""), 50);

        Desk close = new Desk();
        close.text(full.substring(0, 96));
        check.due("write of 5 where 4 fit", close.write(Desk.word("1,-1]")), false);
        check.due("write of 4 where 4 fit", close.write(Desk.word(full.substring(96))), true);
        check.due("body of it", bodyOfText(close), 50);
    }
}
