import java.util.Random;

/** Whatever is asked, and however often: nothing is thrown but what the document names. */
public final class EnduranceTest {
    private static final int DESKS = 120;
    private static final int CALLS = 512;
    /** What is answered behind the 512th call is free, but even there no call may fail by itself. */
    private static final int LATER_CALLS = 20_000;
    private static final String[] TEXTS = {"1", "[1,{\"a\":null}]", "[[[[[{}]]]]]", "[[[[[[]]]]]]", "$", "$.a[0]",
        "$[99]",
        "$:t", "$:/a*b+/|~ab", "$.*[*]:>1&<2", "{\"a\":1,\"b\":2", "[", "{", "\"", "-", "$[", "$.", "$:/", "$:~", "$:>",
        "$:t&"};
    private static final int[] NUMBERS = {Integer.MIN_VALUE, -2, -1, 0, 1, 2, 3, 4, 5, 6, 29, 30, 3071, 3072,
        Integer.MAX_VALUE};

    private final Random random;
    private final ContractDesk desk = new ContractDesk();
    private final Check check;

    private EnduranceTest(int seed, Check check) {
        random = new Random(seed);
        this.check = check;
    }

    public static void main(String[] args) {
        Check check = new Check();
        for (int seed = 0; seed < DESKS && check.allRight(); seed++) {
            new EnduranceTest(seed, check).callOften(CALLS);
        }
        EnduranceTest last = new EnduranceTest(DESKS, check);
        last.callOften(CALLS);
        for (int i = 0; i < LATER_CALLS && check.allRight(); i++) {
            last.callLater();
        }
        check.finish();
    }

    private void callOften(int calls) {
        for (int i = 0; i < calls; i++) {
            callSafely();
        }
    }

    private void callSafely() {
        int method = random.nextInt(14);
        int number = number();
        String thrown = "nothing";
        try {
            call(method, number, number());
        } catch (IllegalStateException e) {
            thrown = method == 1 || method == 2 || method == 3 || method == 7 ? "nothing" : e.toString();
        } catch (IllegalArgumentException e) {
            thrown = method == 2 || method == 3 || method == 7 ? "nothing" : e.toString();
        } catch (RuntimeException e) {
            thrown = e.toString();
        }
        check.due("method " + method + " with " + number + " throws", thrown, "nothing");
    }

    private void callLater() {
        int method = random.nextInt(14);
        String thrown = "nothing";
        try {
            call(method, number(), number());
        } catch (IllegalStateException | IllegalArgumentException e) {
            thrown = "nothing";
        } catch (RuntimeException e) {
            thrown = e.toString();
        }
        check.due("method " + method + " throws, long after the 512th call", thrown, "nothing");
    }

    private int number() {
        return random.nextInt(2) == 0 ? random.nextInt(4) : NUMBERS[random.nextInt(NUMBERS.length)];
    }

    private void call(int method, int first, int second) {
        switch (method) {
            case 0 -> desk.write(random.nextLong());
            case 1 -> desk.make(random.nextBoolean());
            case 2 -> desk.body(first);
            case 3 -> desk.rule(first);
            case 4 -> desk.needs(first, second);
            case 5 -> desk.handler(first, 1 + 2 * random.nextInt(2));
            case 6 -> desk.select(first);
            case 7 -> desk.verify(first);
            case 8 -> desk.listed();
            case 9 -> desk.mismatch(first);
            case 10 -> desk.letter(first, second);
            case 11 -> desk.event(first);
            default -> desk.write(Desk.word(pieceOfText()));
        }
    }

    private String pieceOfText() {
        String text = TEXTS[random.nextInt(TEXTS.length)];
        int from = text.length() > 8 && random.nextInt(3) == 0 ? 8 : 0;
        return text.substring(from, Math.min(from + 8, text.length()));
    }
}
