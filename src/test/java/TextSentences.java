/** What the document says of the text and of write. */
final class TextSentences {
    /** A value of 100 characters, the last two of which tell it from others. */
    private static final String FULL = "[" + "1,".repeat(48) + "-1]";

    private TextSentences() {
    }

    static void test(Sentences due) {
        atMost100Characters(due);
        takenWhateverIsAnswered(due);
        eightBytesAreAppended(due);
        wrongCodesAreRefused(due);
    }

    private static void atMost100Characters(Sentences due) {
        due.by("THE TEXT has at most 100 characters, at first none;");
        due.due("the room of a new desk", new Desk().room(), 100);
        for (int length = 90; length <= 100; length++) {
            Desk desk = new Desk();
            due.due("a text of " + length, desk.text("1".repeat(length)), true);
            due.due("the room after " + length, desk.room(), 100 - length);
        }
        Desk full = new Desk();
        full.make(false);
        due.due("a body of 100", full.body(0, FULL), 50);
        due.due("the same again", full.body(0, FULL), 50);
        due.due("another end", full.body(0, FULL.replace("-1]", "-2]")), Desk.STATE);
        due.due("a text of 101", new Desk().text(FULL + " "), false);
        due.due("a text of 108", new Desk().text(FULL + "########"), false);
        Desk none = Desk.with(false, "1", "$:t");
        due.due("body of none", none.body(0, ""), Desk.ARGUMENT);
        due.due("rule of none", none.rule(0, ""), Desk.ARGUMENT);
        due.due("select of none", none.select(0, ""), -1);
        due.due("verify of none", none.verify(0, ""), Desk.ARGUMENT);
        due.due("body of one character", none.body(0, "1"), 1);
        due.due("select of one character", none.select(0, "$"), 0);
    }

    private static void takenWhateverIsAnswered(Sentences due) {
        due.by("a call that TAKES it uses it and makes it empty, whatever it answers or throws.");
        String[][] calls = {{"body", "0", "1", "1"}, {"body", "1", "1", "1"}, {"body", "9", "1", Desk.ARGUMENT},
            {"body", "0", "?", Desk.ARGUMENT}, {"body", "0", "2", Desk.STATE}, {"rule", "1", "$:t", "0"},
            {"rule", "9", "$:t", Desk.ARGUMENT}, {"rule", "0", "?", Desk.ARGUMENT}, {"rule", "0", "$:t", Desk.STATE},
            {"select", "0", "$.a", "0"}, {"select", "9", "$.a", "-1"}, {"select", "0", "?", "-1"},
            {"select", "1", "$", "-1"}, {"verify", "0", "1", "0"}, {"verify", "0", "2", "1"},
            {"verify", "9", "1", Desk.ARGUMENT}, {"verify", "0", "?", Desk.ARGUMENT}, {"verify", "1", "1", Desk.STATE},
            {"verify", "2", "1", "-3"}};
        for (String[] call : calls) {
            Desk desk = threeInteractions();
            String what = call[0] + "(" + call[1] + ") of " + call[2];
            due.due(what, taking(desk, call[0], Integer.parseInt(call[1]), call[2]), call[3]);
            due.due("the room after " + what, desk.room(), 100);
        }
        Desk next = threeInteractions();
        next.body(0, "?");
        due.due("only what was written since", next.body(0, "1"), 1);
        theOtherCallsLeaveTheText(due);
    }

    /** The first has a body and eight rules, the second nothing, the third needs a state that fails. */
    private static Desk threeInteractions() {
        Desk desk = Desk.with(false, "1", "$.a:t", "$.b:t", "$.c:t", "$.d:t", "$.e:t", "$.f:t", "$.g:t", "$.h:t");
        desk.make(false);
        desk.make(false);
        desk.body(2, "1");
        desk.needs(2, 0);
        return desk;
    }

    private static String taking(Desk desk, String method, int interaction, String text) {
        switch (method) {
            case "body":
                return desk.body(interaction, text);
            case "rule":
                return desk.rule(interaction, text);
            case "select":
                return String.valueOf(desk.select(interaction, text));
            default:
                return desk.verify(interaction, text);
        }
    }

    private static void theOtherCallsLeaveTheText(Sentences due) {
        Desk desk = threeInteractions();
        desk.text("1");
        due.due("make", desk.make(false), 3);
        due.due("make, refused", desk.make(false), Desk.STATE);
        due.due("needs", desk.needs(0, 0), true);
        due.due("needs, refused", desk.needs(0, 0), false);
        due.due("handler", desk.handler(0, 1), true);
        due.due("handler, refused", desk.handler(0, 4), false);
        due.due("listed", desk.listed(), 0);
        due.due("mismatch", desk.mismatch(0), -1);
        due.due("letter", desk.letter(0, 0), -1);
        due.due("event", desk.event(-1), 0);
        due.due("write, refused", desk.write(31), false);
        due.due("body of the text and 2 behind it", desk.body(3, "2"), 1);
        due.due("the same as 12", desk.body(3, "12"), 1);
    }

    private static void eightBytesAreAppended(Sentences due) {
        due.by("Appends up to eight characters to the text, the codes of which are the eight bytes of w from the "
                + "highest on, but for those that are 0: true.");
        String eight = "\"abcdef\"";
        for (int zeros = 0; zeros < 256; zeros++) {
            long w = Desk.word(eight);
            StringBuilder rest = new StringBuilder();
            for (int i = 0; i < 8; i++) {
                if ((zeros >> i & 1) == 1) {
                    w &= ~(255L << (56 - 8 * i));
                } else {
                    rest.append(eight.charAt(i));
                }
            }
            Desk desk = new Desk();
            desk.make(false);
            due.due("write with " + rest, desk.write(w), true);
            boolean value = rest.length() >= 2 && rest.charAt(0) == '"' && rest.charAt(rest.length() - 1) == '"';
            due.due("body of " + rest, desk.body(0, ""), value ? 1 : Desk.ARGUMENT);
            due.due("body of " + rest + " again", desk.body(0, rest.toString()), value ? 1 : Desk.ARGUMENT);
            Desk room = new Desk();
            room.write(w);
            due.due("the room after " + rest, room.room(), 100 - rest.length());
        }
        Desk order = new Desk();
        order.make(false);
        order.write(Desk.word("[1,22,33"));
        order.write(Desk.word("3,4444]"));
        due.due("body of two words", order.body(0, ""), 5);
        due.due("the same in one order", order.body(0, "[1,22,333,4444]"), 5);
        due.due("in another", order.body(0, "[4444,333,22,1]"), Desk.STATE);
    }

    private static void wrongCodesAreRefused(Sentences due) {
        due.by("False, changing nothing, if one of the others is not 32 .. 126, or they are more than there is room "
                + "for.");
        for (int code = 1; code < 256; code++) {
            boolean right = code >= 32 && code <= 126;
            for (int shift = 0; shift < 64; shift += 8) {
                due.due("write of " + code + " at " + shift, new Desk().write((long) code << shift), right);
                long among = Desk.word("11111111") & ~(255L << shift) | (long) code << shift;
                due.due("write of " + code + " among others at " + shift, new Desk().write(among), right);
            }
            Desk desk = new Desk();
            desk.write(code);
            due.due("the room after " + code, desk.room(), right ? 99 : 100);
        }
        for (int room = 0; room <= 9; room++) {
            for (int added = 0; added <= 8; added++) {
                Desk desk = new Desk();
                desk.text("1".repeat(100 - room));
                String what = added + " where there is room for " + room;
                due.due("write of " + what, desk.write(Desk.word("1".repeat(added))), added <= room);
                due.due("the room after " + what, desk.room(), added <= room ? room - added : room);
            }
        }
        Desk kept = new Desk();
        kept.make(false);
        kept.text(FULL.substring(0, 96));
        due.due("write of 5 where 4 fit", kept.write(Desk.word("2,-2]")), false);
        due.due("write of a wrong code behind a right one", kept.write(0x327f), false);
        due.due("write of a wrong code before a right one", kept.write(0x1f32), false);
        due.due("body of what there was", kept.body(0, FULL.substring(96)), 50);
        due.due("the same again", kept.body(0, FULL), 50);
    }
}
