import java.util.function.Consumer;
import java.util.function.LongSupplier;

/** All short texts of the characters that count somewhere, as bodies, rules and places: the model answers the same. */
public final class ShortTextsTest {
    private static final long ARGUMENT = -1001;
    private static final String[] PATTERNS = {"$:t", "$.a:t", "$[0]:t", "$[1]:t", "$.*.*:t", "$[*][*]:t", "$.*[*]:t",
        "$[*].a:t"};

    private final Check check = new Check();

    public static void main(String[] args) {
        ShortTextsTest test = new ShortTextsTest();
        test.all("", "01-[]{},:\"az ", 4, test::sameBody);
        test.all("[1", "01-[]{},:\"az ", 4, test::sameBody);
        test.all("{\"a\"", ":1,\"ab{}[]", 5, test::sameBody);
        test.all("{\"a\":1,\"", ":1,\"ab{}[]", 5, test::sameBody);
        test.all("$", ".[]*:a1t", 5, test::sameRule);
        test.all("$:", "t=0i<>1~a/.*+&|", 4, test::sameRule);
        test.all("$:/", "a./*+&t", 5, test::sameRule);
        test.all("", "$.[]*a019", 2, test::samePlace);
        test.all("$", ".[]*a019", 5, test::samePlace);
        test.check.finish();
    }

    /** Asks for all texts with a beginning and up to so many of the characters behind it. */
    private void all(String beginning, String characters, int most, Consumer<String> ask) {
        ask.accept(beginning);
        for (int i = 0; most > 0 && i < characters.length() && check.allRight(); i++) {
            all(beginning + characters.charAt(i), characters, most - 1, ask);
        }
    }

    private void sameBody(String text) {
        ContractDesk desk = new ContractDesk();
        Model model = new Model();
        desk.make(false);
        model.make(false);
        write(desk, model, text);
        check.due("body of " + text, answerOf(() -> desk.body(0)), answerOf(() -> model.body(0)));
    }

    private void sameRule(String text) {
        ContractDesk desk = new ContractDesk();
        Model model = new Model();
        desk.make(false);
        model.make(false);
        write(desk, model, text);
        check.due("rule of " + text, answerOf(() -> desk.rule(0)), answerOf(() -> model.rule(0)));
    }

    private void samePlace(String text) {
        ContractDesk desk = new ContractDesk();
        Model model = new Model();
        desk.make(false);
        model.make(false);
        for (String pattern : PATTERNS) {
            write(desk, model, pattern);
            desk.rule(0);
            model.rule(0);
        }
        write(desk, model, text);
        check.due("select of " + text, answerOf(() -> desk.select(0)), answerOf(() -> model.select(0)));
    }

    private static void write(ContractDesk desk, Model model, String text) {
        for (int from = 0; from < text.length(); from += 8) {
            long word = Desk.word(text.substring(from, Math.min(from + 8, text.length())));
            desk.write(word);
            model.write(word);
        }
    }

    private static long answerOf(LongSupplier call) {
        try {
            return call.getAsLong();
        } catch (IllegalArgumentException e) {
            return ARGUMENT;
        }
    }
}
