import java.util.List;
import java.util.Random;
import java.util.function.LongSupplier;
import java.util.regex.MatchResult;
import java.util.regex.Pattern;

/** Runs of calls that a fixed seed chooses, on the class and on the model: every answer is the same. */
public final class ModelTest {
    private static final int RUNS = 4000;
    private static final int CALLS = 512;
    private static final long ARGUMENT = -1001;
    private static final long STATE = -1002;

    private static final String[] LEAVES = {"null", "true", "false", "0", "1", "7", "-7", "12", "12345", "\"\"", "\"a\"",
        "\"ab\"", "\"aba\"", "\"bbb\"", "\"abcdefghijkl\""};
    private static final String[] MATCHERS = {"t", "t", "=", "0", "i", ">0", ">1", ">2", "<1", "<2", "<9", "~a", "~ab", "~bb",
        "/a*/", "/.+/", "/ab*a/", "/.*b/", "/a.*/", "/b+/"};
    private static final String LEAF = "(?:-?[0-9]+|null|true|false|\"[a-z]*\")";
    private static final String STRANGE = " \"[]{},:.*$&|~/0123aAz-+";

    private final Random random;
    private final ContractDesk desk = new ContractDesk();
    private final Model model = new Model();
    private final Check check;
    private final String run;
    private int calls;
    /** What the interactions expect, as far as the test knows. */
    private final String[] bodies = {"1", "1", "1"};

    private ModelTest(int seed, Check check) {
        random = new Random(seed);
        this.check = check;
        run = "run " + seed + ", call ";
    }

    public static void main(String[] args) {
        Check check = new Check();
        for (int seed = 0; seed < RUNS && check.allRight(); seed++) {
            new ModelTest(seed, check).runOnce();
        }
        check.finish();
    }

    private void runOnce() {
        int made = 1 + random.nextInt(bodies.length);
        for (int n = 0; n < made; n++) {
            bodies[n] = shortValue();
            make();
            body(n, bodies[n]);
        }
        while (calls < CALLS && check.allRight()) {
            callOnce(random.nextInt(100));
        }
    }

    private void callOnce(int choice) {
        int n = random.nextInt(25) == 0 ? random.nextInt(7) - 1 : random.nextInt(3);
        int state = random.nextInt(20) == 0 ? random.nextInt(10) - 2 : random.nextInt(6);
        int handler = random.nextInt(4) == 0 ? random.nextInt(6) - 1 : 1;
        if (choice < 2) {
            make();
        } else if (choice < 7) {
            body(n, actualFor(n));
        } else if (choice < 22) {
            write(rule());
            same("rule(" + n + ")", () -> desk.rule(n), () -> model.rule(n));
        } else if (choice < 34) {
            write(place());
            same("select(" + n + ")", () -> desk.select(n), () -> model.select(n));
        } else if (choice < 37) {
            same("needs(" + n + ", " + state + ")", () -> bit(desk.needs(n, state)), () -> bit(model.needs(n, state)));
        } else if (choice < 52) {
            same("handler(" + state + ", " + handler + ")", () -> bit(desk.handler(state, handler)),
                    () -> bit(model.handler(state, handler)));
        } else if (choice < 53) {
            writeWord(random.nextLong() & 0x7f7f7f7f7f7f7f7fL);
        } else {
            write(actualFor(n));
            same("verify(" + n + ")", () -> desk.verify(n), () -> model.verify(n));
            askOfTheListing();
        }
    }

    private void make() {
        boolean strict = random.nextBoolean();
        same("make(" + strict + ")", () -> desk.make(strict), () -> model.make(strict));
    }

    private void body(int n, String text) {
        write(text);
        same("body(" + n + ")", () -> desk.body(n), () -> model.body(n));
    }

    private void askOfTheListing() {
        same("listed()", () -> desk.listed(), () -> model.listed());
        int k = random.nextInt(5) == 0 ? random.nextInt(34) - 2 : random.nextInt(1 + model.listed());
        same("mismatch(" + k + ")", () -> desk.mismatch(k), () -> model.mismatch(k));
        for (int i = -1; i == -1 || model.letter(k, i - 1) != -1; i++) {
            int at = i;
            same("letter(" + k + ", " + at + ")", () -> desk.letter(k, at), () -> model.letter(k, at));
        }
        same("event(-1)", () -> desk.event(-1), () -> model.event(-1));
        int e = model.event(-1) - random.nextInt(8);
        same("event(" + e + ")", () -> desk.event(e), () -> model.event(e));
    }

    private static long bit(boolean answer) {
        return answer ? 1 : 0;
    }

    /** Asks nothing once the desk was used for as many calls as the document speaks of. */
    private void same(String call, LongSupplier asked, LongSupplier due) {
        if (calls >= CALLS) {
            return;
        }
        calls++;
        check.due(run + calls + ": " + call, answerOf(asked), answerOf(due));
    }

    private static long answerOf(LongSupplier call) {
        try {
            return call.getAsLong();
        } catch (IllegalArgumentException e) {
            return ARGUMENT;
        } catch (IllegalStateException e) {
            return STATE;
        }
    }

    private void write(String text) {
        String written = random.nextInt(25) == 0 ? spoilt(text) : text;
        for (int from = 0; from < written.length(); from += 8) {
            writeWord(Desk.word(written.substring(from, Math.min(from + 8, written.length()))));
        }
    }

    private void writeWord(long word) {
        same("write(" + word + ")", () -> bit(desk.write(word)), () -> bit(model.write(word)));
    }

    /** A text with one character changed, put in or left out. */
    private String spoilt(String text) {
        int at = random.nextInt(text.length() + 1);
        char strange = STRANGE.charAt(random.nextInt(STRANGE.length()));
        int until = Math.min(text.length(), at + random.nextInt(2));
        return text.substring(0, at) + (random.nextInt(3) == 0 ? "" : strange) + text.substring(until);
    }

    /** Mostly a text close to the body, so that comparisons get far. */
    private String actualFor(int n) {
        String like = n >= 0 && n < bodies.length ? bodies[n] : "1";
        int changes = random.nextInt(4);
        for (int i = 0; i < changes; i++) {
            like = changed(like);
        }
        int choice = random.nextInt(20);
        return choice == 0 ? row() : choice == 1 || like.length() > 100 ? shortValue() : like;
    }

    private String changed(String text) {
        String leaf = LEAVES[random.nextInt(LEAVES.length)];
        switch (random.nextInt(7)) {
            case 0:
                return replaceOne(text, "(?<=[^\\[])\\]", "," + leaf + "]");
            case 1:
                return replaceOne(text, "(?<=[^{])\\}", ",\"z\":" + leaf + "}");
            case 2:
                return replaceOne(text, "(\"[a-z]\":)?" + LEAF + ",", "");
            case 3:
                return replaceOne(text, "\"[a-z]\":", "\"y\":");
            case 4:
                return replaceOne(text, "\\[\\]|\\{\\}", leaf);
            default:
                return replaceOne(text, LEAF + "(?!:)", leaf);
        }
    }

    private String replaceOne(String text, String regex, String by) {
        List<MatchResult> found = Pattern.compile(regex).matcher(text).results().toList();
        if (found.isEmpty()) {
            return text;
        }
        MatchResult one = found.get(random.nextInt(found.size()));
        return text.substring(0, one.start()) + by + text.substring(one.end());
    }

    private String shortValue() {
        if (random.nextInt(10) == 0) {
            return row();
        }
        String value = valueOfDepth(random.nextInt(6));
        for (int tries = 0; tries < 20 && (value.length() > 100 || value.length() < 10); tries++) {
            value = valueOfDepth(1 + random.nextInt(5));
        }
        return value.length() > 100 ? "[]" : value;
    }

    /** A flat array, at times as long as the text can be. */
    private String row() {
        String element = random.nextBoolean() ? "1" : "{}";
        int most = element.equals("1") ? 49 : 33;
        int length = 1 + random.nextInt(most);
        return "[" + (element + ",").repeat(length - 1) + element + "]";
    }

    private String valueOfDepth(int depth) {
        if (depth == 0) {
            return LEAVES[random.nextInt(LEAVES.length)];
        }
        boolean array = random.nextBoolean();
        StringBuilder written = new StringBuilder(array ? "[" : "{");
        int parts = random.nextInt(4);
        for (int i = 0; i < parts; i++) {
            written.append(i == 0 ? "" : ",");
            written.append(array ? "" : "\"" + (char) ('a' + (i + depth) % 4) + "\":");
            written.append(valueOfDepth(random.nextInt(depth + 1) == 0 ? 0 : depth - 1));
        }
        return written.append(array ? "]" : "}").toString();
    }

    private String rule() {
        StringBuilder written = new StringBuilder("$");
        int steps = random.nextInt(8) == 0 ? random.nextInt(7) : random.nextInt(3);
        for (int i = 0; i < steps; i++) {
            String[] all = {".*", "[*]", "[0]", "[1]", ".a", ".b", ".c", ".d"};
            written.append(all[random.nextInt(all.length)]);
        }
        String sign = random.nextBoolean() ? "&" : "|";
        int matchers = 1 + (random.nextBoolean() ? 0 : random.nextInt(3));
        for (int i = 0; i < matchers; i++) {
            written.append(i == 0 ? ":" : sign).append(MATCHERS[random.nextInt(MATCHERS.length)]);
        }
        return written.toString();
    }

    private String place() {
        StringBuilder written = new StringBuilder("$");
        int steps = random.nextInt(7);
        for (int i = 0; i < steps; i++) {
            String[] all = {"[0]", "[1]", "[10]", ".a", ".b", ".c", ".d"};
            written.append(all[random.nextInt(all.length)]);
        }
        return written.toString();
    }
}
