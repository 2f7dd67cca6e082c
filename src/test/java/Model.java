import java.util.ArrayList;
import java.util.LinkedHashMap;
import java.util.List;
import java.util.Map;
import java.util.Objects;
import java.util.regex.Pattern;

/**
 * The promises once more, written another way, with the Java library: values are Java's own, and
 * rules and places are read and fitted by regular expressions.
 */
final class Model {
    private static final String MATCHER = "(?:[t=0i]|[<>][0-9]|~[a-z]{1,6}|/(?:[a-z.][*+]?){1,8}/)";
    private static final Pattern RULE = Pattern.compile("\\$(?:\\.[a-z*]|\\[[0-9*]\\]){0,5}:"
            + MATCHER + "(?:(?:&" + MATCHER + ")*|(?:\\|" + MATCHER + ")*)");
    private static final Pattern PLACE = Pattern.compile("\\$(?:\\.[a-z]|\\[(?:[0-9]|[1-9][0-9])\\])*");
    private static final Pattern NUMBER = Pattern.compile("0|-?[1-9][0-9]{0,4}");
    private static final Pattern STRING = Pattern.compile("\"[a-z]{0,12}\"");
    private static final Pattern MEMBER = Pattern.compile("\"[a-z]\":.*");

    /** A value, or that there is none; null is a value. */
    private record Read(boolean right, Object value) {
        static final Read WRONG = new Read(false, null);
    }

    private static final class Contract {
        boolean strict;
        Read body = Read.WRONG;
        final List<String> rules = new ArrayList<>();
        final List<Integer> states = new ArrayList<>();
    }

    private String text = "";
    private final List<Contract> contracts = new ArrayList<>();
    private final int[] handlers = new int[6];
    private final List<Integer> events = new ArrayList<>();
    private List<String> listing = new ArrayList<>();

    boolean write(long w) {
        StringBuilder added = new StringBuilder();
        for (String hex : String.format("%016x", w).split("(?<=\\G..)")) {
            int code = Integer.parseInt(hex, 16);
            if (code != 0) {
                added.append((char) code);
            }
        }
        if (!added.toString().matches("[ -~]*") || text.length() + added.length() > 100) {
            return false;
        }
        text += added;
        return true;
    }

    int make(boolean strict) {
        if (contracts.size() == 4) {
            throw new IllegalStateException();
        }
        Contract made = new Contract();
        made.strict = strict;
        contracts.add(made);
        return contracts.size() - 1;
    }

    int body(int interaction) {
        Read read = read(take(), 0);
        if (!isThere(interaction) || !read.right) {
            throw new IllegalArgumentException();
        }
        Contract contract = contracts.get(interaction);
        if (contract.body.right && !Objects.equals(contract.body.value, read.value)) {
            throw new IllegalStateException();
        }
        contract.body = contract.body.right ? contract.body : read;
        return count(read.value);
    }

    int rule(int interaction) {
        String rule = take();
        if (!isThere(interaction) || !RULE.matcher(rule).matches()) {
            throw new IllegalArgumentException();
        }
        List<String> rules = contracts.get(interaction).rules;
        if (rules.size() == 8) {
            throw new IllegalStateException();
        }
        rules.add(rule);
        return rules.size() - 1;
    }

    boolean needs(int interaction, int state) {
        if (!isThere(interaction) || state < 0 || state > 5) {
            return false;
        }
        List<Integer> states = contracts.get(interaction).states;
        return states.size() < 3 && !states.contains(state) && states.add(state);
    }

    boolean handler(int state, int handler) {
        if (state < 0 || state > 5 || handler < 0 || handler > 3) {
            return false;
        }
        handlers[state] = handler;
        return true;
    }

    int select(int interaction) {
        String place = take();
        return isThere(interaction) && PLACE.matcher(place).matches() ? select(contracts.get(interaction), place) : -1;
    }

    int verify(int interaction) {
        Read read = read(take(), 0);
        if (!isThere(interaction) || !read.right) {
            throw new IllegalArgumentException();
        }
        Contract contract = contracts.get(interaction);
        if (!contract.body.right) {
            throw new IllegalStateException();
        }
        List<Integer> done = new ArrayList<>();
        boolean good = true;
        for (int i = 0; i < contract.states.size() && good; i++) {
            int state = contract.states.get(i);
            good = handlers[state] % 2 == 1;
            events.add(10 * state + (good ? 0 : 2));
            if (good) {
                done.add(0, state);
            }
        }
        if (good) {
            listing = new ArrayList<>();
            compare(contract, "$", contract.body.value, read.value);
        }
        for (int state : done) {
            events.add(10 * state + handlers[state]);
        }
        return good ? listing.size() : -3;
    }

    int listed() {
        return Math.min(30, listing.size());
    }

    int mismatch(int k) {
        return k >= 0 && k < listed() ? listing.get(k).charAt(0) - '0' : -1;
    }

    int letter(int k, int i) {
        return k >= 0 && k < listed() && i >= 0 && i < listing.get(k).length() - 1 ? listing.get(k).charAt(i + 1) : -1;
    }

    int event(int k) {
        if (k == -1) {
            return events.size();
        }
        return k >= 0 && k < events.size() ? events.get(k) : -1;
    }

    private boolean isThere(int interaction) {
        return interaction >= 0 && interaction < contracts.size();
    }

    private String take() {
        String taken = text;
        text = "";
        return taken;
    }

    private static Read read(String written, int depth) {
        switch (written) {
            case "null":
                return new Read(true, null);
            case "true":
                return new Read(true, true);
            case "false":
                return new Read(true, false);
            default:
                break;
        }
        if (NUMBER.matcher(written).matches()) {
            return new Read(true, Integer.valueOf(written));
        }
        if (STRING.matcher(written).matches()) {
            return new Read(true, written.substring(1, written.length() - 1));
        }
        boolean array = written.startsWith("[") && written.endsWith("]");
        boolean object = written.startsWith("{") && written.endsWith("}");
        if (depth == 5 || written.length() < 2 || !(array || object)) {
            return Read.WRONG;
        }
        List<String> parts = split(written.substring(1, written.length() - 1));
        return array ? readArray(parts, depth) : readObject(parts, depth);
    }

    private static Read readArray(List<String> parts, int depth) {
        List<Object> array = new ArrayList<>();
        for (String part : parts) {
            Read element = read(part, depth + 1);
            if (!element.right) {
                return Read.WRONG;
            }
            array.add(element.value);
        }
        return new Read(true, array);
    }

    private static Read readObject(List<String> parts, int depth) {
        Map<Character, Object> object = new LinkedHashMap<>();
        for (String part : parts) {
            if (!MEMBER.matcher(part).matches() || object.containsKey(part.charAt(1))) {
                return Read.WRONG;
            }
            Read member = read(part.substring(4), depth + 1);
            if (!member.right) {
                return Read.WRONG;
            }
            object.put(part.charAt(1), member.value);
        }
        return new Read(true, object);
    }

    /** What stands between the commas that are in no inner array or object. */
    private static List<String> split(String inner) {
        List<String> parts = new ArrayList<>();
        int depth = 0;
        int from = 0;
        for (int i = 0; i < inner.length(); i++) {
            char letter = inner.charAt(i);
            depth += letter == '[' || letter == '{' ? 1 : letter == ']' || letter == '}' ? -1 : 0;
            if (letter == ',' && depth == 0) {
                parts.add(inner.substring(from, i));
                from = i + 1;
            }
        }
        if (!inner.isEmpty()) {
            parts.add(inner.substring(from));
        }
        return parts;
    }

    private static int count(Object value) {
        int count = 1;
        if (value instanceof List<?> list) {
            for (Object element : list) {
                count += count(element);
            }
        } else if (value instanceof Map<?, ?> map) {
            for (Object member : map.values()) {
                count += count(member);
            }
        }
        return count;
    }

    private static String patternOf(String rule) {
        return rule.substring(0, rule.indexOf(':'));
    }

    /** Weight and number of steps in one number, the weight first. */
    private static int rank(String rule) {
        String pattern = patternOf(rule);
        int steps = pattern.replaceAll("[^.\\[]", "").length();
        int any = pattern.replaceAll("[^*]", "").length();
        return (steps - any) * 100 + steps;
    }

    private static boolean fits(String rule, String place) {
        String regex = patternOf(rule).replace("$", "\\$").replace("[", "\\[").replace(".", "\\.")
                .replace("\\.*", "\\.[a-z]").replace("\\[*", "\\[[0-9]+");
        return Pattern.compile(regex).matcher(place).lookingAt();
    }

    private static int select(Contract contract, String place) {
        int best = -1;
        for (int i = contract.rules.size() - 1; i >= 0; i--) {
            String rule = contract.rules.get(i);
            if (fits(rule, place) && (best == -1 || rank(rule) >= rank(contract.rules.get(best)))) {
                best = i;
            }
        }
        return best;
    }

    private static List<String> matchersOf(String rule) {
        return List.of(rule.substring(rule.indexOf(':') + 1).split("[&|]"));
    }

    private static String kind(Object value) {
        return value == null ? "null" : value instanceof List ? "array" : value instanceof Map ? "object"
                : value.getClass().getName();
    }

    private static boolean holds(String matcher, Object expected, Object actual) {
        String rest = matcher.substring(1);
        switch (matcher.charAt(0)) {
            case 't':
                return kind(expected).equals(kind(actual));
            case '=':
                return Objects.equals(expected, actual);
            case '0':
                return actual == null;
            case 'i':
                return actual instanceof Integer;
            case '>':
                return actual instanceof List<?> list && list.size() >= Integer.parseInt(rest);
            case '<':
                return actual instanceof List<?> list && list.size() <= Integer.parseInt(rest);
            case '~':
                return actual instanceof String string && string.contains(rest);
            default:
                return actual instanceof String string && string.matches(rest.substring(0, rest.length() - 1));
        }
    }

    private static boolean ruleHolds(String rule, Object expected, Object actual) {
        List<String> matchers = matchersOf(rule);
        return rule.contains("|") ? matchers.stream().anyMatch(m -> holds(m, expected, actual))
                : matchers.stream().allMatch(m -> holds(m, expected, actual));
    }

    private void compare(Contract contract, String place, Object expected, Object actual) {
        int number = select(contract, place);
        boolean loose = false;
        if (number == -1) {
            boolean outer = expected instanceof List || expected instanceof Map;
            if (!kind(expected).equals(kind(actual)) || !outer && !Objects.equals(expected, actual)) {
                listing.add(1 + place);
                return;
            }
        } else {
            String rule = contract.rules.get(number);
            loose = matchersOf(rule).stream().anyMatch(m -> m.matches("[t<>].*"));
            if (!ruleHolds(rule, expected, actual)) {
                listing.add(5 + place);
                return;
            }
        }
        if (expected instanceof List<?> wanted && actual instanceof List<?> given) {
            compareArrays(contract, place, wanted, given, loose);
        } else if (expected instanceof Map<?, ?> wanted && actual instanceof Map<?, ?> given) {
            compareObjects(contract, place, wanted, given);
        }
    }

    private void compareArrays(Contract contract, String place, List<?> wanted, List<?> given, boolean loose) {
        if (loose) {
            for (int i = 0; i < given.size() && !wanted.isEmpty(); i++) {
                Object model = wanted.get(Math.min(i, wanted.size() - 1));
                compare(contract, place + "[" + i + "]", model, given.get(i));
            }
            return;
        }
        if (wanted.size() != given.size()) {
            listing.add(2 + place);
        }
        for (int i = 0; i < Math.min(wanted.size(), given.size()); i++) {
            compare(contract, place + "[" + i + "]", wanted.get(i), given.get(i));
        }
    }

    private void compareObjects(Contract contract, String place, Map<?, ?> wanted, Map<?, ?> given) {
        for (Map.Entry<?, ?> member : wanted.entrySet()) {
            String there = place + "." + member.getKey();
            if (given.containsKey(member.getKey())) {
                compare(contract, there, member.getValue(), given.get(member.getKey()));
            } else {
                listing.add(3 + there);
            }
        }
        for (Object key : given.keySet()) {
            if (contract.strict && !wanted.containsKey(key)) {
                listing.add(4 + place + "." + key);
            }
        }
    }
}
