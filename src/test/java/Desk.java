/** A ContractDesk that is spoken to in texts; an answer is a number, or the name of what was thrown. */
final class Desk {
    static final String ARGUMENT = "IllegalArgumentException";
    static final String STATE = "IllegalStateException";
    static final int MAX_CALLS = 512;

    private final ContractDesk face = new ContractDesk();
    private int calls;

    /** What later calls answer is free, so no test may rest on one of them. */
    private ContractDesk face() {
        calls++;
        if (calls > MAX_CALLS) {
            throw new AssertionError("a test uses a desk for more than 512 calls");
        }
        return face;
    }

    int callsLeft() {
        return MAX_CALLS - calls;
    }

    /** The word that write takes for up to eight characters, with zero bytes before them. */
    static long word(String letters) {
        long word = 0;
        for (char letter : letters.toCharArray()) {
            word = word << 8 | letter;
        }
        return word;
    }

    boolean write(long w) {
        return face().write(w);
    }

    /** Whether a text could be written; eight characters of it with each call. */
    boolean text(String text) {
        for (int from = 0; from < text.length(); from += 8) {
            if (!write(word(text.substring(from, Math.min(from + 8, text.length()))))) {
                return false;
            }
        }
        return true;
    }

    private void mustText(String text) {
        if (!text(text)) {
            throw new AssertionError("the text was refused: " + text);
        }
    }

    /** How many characters there is room for; the text is longer after it was asked. */
    int room() {
        int room = 0;
        while (write(word("########"))) {
            room += 8;
        }
        while (write('#')) {
            room++;
        }
        return room;
    }

    String make(boolean strict) {
        try {
            return String.valueOf(face().make(strict));
        } catch (IllegalStateException e) {
            return STATE;
        }
    }

    String body(int interaction, String text) {
        mustText(text);
        try {
            return String.valueOf(face().body(interaction));
        } catch (IllegalArgumentException e) {
            return ARGUMENT;
        } catch (IllegalStateException e) {
            return STATE;
        }
    }

    String rule(int interaction, String text) {
        mustText(text);
        try {
            return String.valueOf(face().rule(interaction));
        } catch (IllegalArgumentException e) {
            return ARGUMENT;
        } catch (IllegalStateException e) {
            return STATE;
        }
    }

    String verify(int interaction, String text) {
        mustText(text);
        try {
            return String.valueOf(face().verify(interaction));
        } catch (IllegalArgumentException e) {
            return ARGUMENT;
        } catch (IllegalStateException e) {
            return STATE;
        }
    }

    int select(int interaction, String text) {
        mustText(text);
        return face().select(interaction);
    }

    boolean needs(int interaction, int state) {
        return face().needs(interaction, state);
    }

    boolean handler(int state, int handler) {
        return face().handler(state, handler);
    }

    int listed() {
        return face().listed();
    }

    int mismatch(int k) {
        return face().mismatch(k);
    }

    int letter(int k, int i) {
        return face().letter(k, i);
    }

    int event(int k) {
        return face().event(k);
    }

    String place(int k) {
        StringBuilder place = new StringBuilder();
        for (int code = letter(k, 0); code != ContractDesk.NONE; code = letter(k, place.length())) {
            place.append((char) code);
        }
        return place.toString();
    }

    /** All that is listed, each mismatch as its kind and place. */
    String listing() {
        StringBuilder all = new StringBuilder();
        int listed = listed();
        for (int k = 0; k < listed; k++) {
            all.append(k == 0 ? "" : " ").append(mismatch(k)).append(place(k));
        }
        return all.toString();
    }

    String events() {
        StringBuilder all = new StringBuilder();
        int count = event(-1);
        for (int k = 0; k < count; k++) {
            all.append(k == 0 ? "" : " ").append(event(k));
        }
        return all.toString();
    }

    /** A new desk with one interaction that has a body and rules. */
    static Desk with(boolean strict, String body, String... rules) {
        Desk desk = new Desk();
        desk.make(strict);
        desk.body(0, body);
        for (int i = 0; i < rules.length; i++) {
            if (!desk.rule(0, rules[i]).equals(String.valueOf(i))) {
                throw new AssertionError("the rule was refused: " + rules[i]);
            }
        }
        return desk;
    }

    /** What is listed when a new desk compares one body with another. */
    static String compare(boolean strict, String expected, String actual, String... rules) {
        Desk desk = with(strict, expected, rules);
        desk.verify(0, actual);
        return desk.listing();
    }
}
