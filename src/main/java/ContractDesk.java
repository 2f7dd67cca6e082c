import java.util.ArrayList;

/**
 * A desk for contracts between programs: interactions with an expected body and rules for places in
 * it are declared, actual bodies are compared with them, and what does not match is listed.
 */
public final class ContractDesk {
    public static final int NONE = -1;

    private static final int MAX_TEXT = 100;
    private static final int MAX_DEPTH = 5;
    private static final int MAX_INTERACTIONS = 4;
    private static final int NOT_SET_UP = -3;

    private final StringBuilder text;
    private final Interaction[] interactions;
    private int interactionCount;
    private final States states;
    private final Comparison comparison;

    public ContractDesk() {
        text = new StringBuilder();
        interactions = new Interaction[MAX_INTERACTIONS];
        states = new States();
        comparison = new Comparison();
    }

    public boolean write(long w) {
        int added = 0;
        for (int shift = 56; shift >= 0; shift -= 8) {
            int code = byteOf(w, shift);
            if (code != 0 && (code < 32 || code > 126)) {
                return false;
            }
            added += code == 0 ? 0 : 1;
        }
        if (text.length() + added > MAX_TEXT) {
            return false;
        }
        for (int shift = 56; shift >= 0; shift -= 8) {
            int code = byteOf(w, shift);
            if (code != 0) {
                text.append((char) code);
            }
        }
        return true;
    }

    public int make(boolean strict) throws IllegalStateException {
        if (interactionCount >= MAX_INTERACTIONS) {
            throw new IllegalStateException();
        }
        interactions[interactionCount] = new Interaction(strict);
        return interactionCount++;
    }

    public int body(int interaction) throws IllegalArgumentException, IllegalStateException {
        Interaction chosen = find(interaction);
        Value value = Value.read(takeText());
        if (chosen == null || value == null) {
            throw new IllegalArgumentException();
        }
        if (!chosen.expect(value)) {
            throw new IllegalStateException();
        }
        return value.count();
    }

    public int rule(int interaction) throws IllegalArgumentException, IllegalStateException {
        Interaction chosen = find(interaction);
        Rule added = Rule.read(takeText());
        if (chosen == null || added == null) {
            throw new IllegalArgumentException();
        }
        int number = chosen.addRule(added);
        if (number == NONE) {
            throw new IllegalStateException();
        }
        return number;
    }

    public boolean needs(int interaction, int state) {
        Interaction chosen = find(interaction);
        return chosen != null && States.exists(state) && chosen.addState(state);
    }

    public boolean handler(int state, int handler) {
        return states.assign(state, handler);
    }

    public int select(int interaction) {
        Interaction chosen = find(interaction);
        Path place = Path.readPlace(takeText());
        if (chosen == null || place == null) {
            return NONE;
        }
        return chosen.selected(place);
    }

    public int verify(int interaction) throws IllegalArgumentException, IllegalStateException {
        Interaction chosen = find(interaction);
        Value actual = Value.read(takeText());
        if (chosen == null || actual == null) {
            throw new IllegalArgumentException();
        }
        if (chosen.expected() == null) {
            throw new IllegalStateException();
        }
        if (!setUpStates(chosen)) {
            return NOT_SET_UP;
        }
        int found = comparison.run(chosen, actual);
        tearDownStates(chosen, chosen.stateCount());
        return found;
    }

    public int listed() {
        return comparison.listedCount();
    }

    public int mismatch(int k) {
        Mismatch asked = comparison.listedAt(k);
        return asked == null ? NONE : asked.kind();
    }

    public int letter(int k, int i) {
        Mismatch asked = comparison.listedAt(k);
        return asked == null ? NONE : asked.placeCode(i);
    }

    public int event(int k) {
        return k == -1 ? states.eventCount() : states.eventAt(k);
    }

    private static int byteOf(long w, int shift) {
        return (int) (w >>> shift) & 255;
    }

    private Interaction find(int interaction) {
        return interaction >= 0 && interaction < interactionCount ? interactions[interaction] : null;
    }

    /** Empties the text at once, so that it is taken whatever the call answers or throws. */
    private Cursor takeText() {
        Cursor cursor = new Cursor(text.toString());
        text.setLength(0);
        return cursor;
    }

    private boolean setUpStates(Interaction chosen) {
        for (int i = 0; i < chosen.stateCount(); i++) {
            if (!states.setUp(chosen.stateAt(i))) {
                tearDownStates(chosen, i);
                return false;
            }
        }
        return true;
    }

    private void tearDownStates(Interaction chosen, int count) {
        for (int i = count - 1; i >= 0; i--) {
            states.tearDown(chosen.stateAt(i));
        }
    }

    /** Reads a text from its beginning to its end. */
    private static final class Cursor {
        /** No text has this character, and none is ever accepted. */
        private static final char END = 0;

        private final String letters;
        private int position;

        Cursor(String letters) {
            this.letters = letters;
        }

        int position() {
            return position;
        }

        boolean atEnd() {
            return position >= letters.length();
        }

        char peek() {
            return position < letters.length() ? letters.charAt(position) : END;
        }

        char next() {
            char found = peek();
            if (found != END) {
                position++;
            }
            return found;
        }

        boolean accept(char wanted) {
            if (peek() != wanted) {
                return false;
            }
            position++;
            return true;
        }

        boolean acceptWord(String word) {
            for (int i = 0; i < word.length(); i++) {
                if (!accept(word.charAt(i))) {
                    return false;
                }
            }
            return true;
        }

        /** How many letters were accepted, at most so many as are asked for. */
        int acceptLetters(int most) {
            int count = 0;
            while (count < most && peek() >= 'a' && peek() <= 'z') {
                position++;
                count++;
            }
            return count;
        }

        /** How many digits were accepted, at most so many as are asked for. */
        int acceptDigits(int most) {
            int count = 0;
            while (count < most && peek() >= '0' && peek() <= '9') {
                position++;
                count++;
            }
            return count;
        }

        /** What was read from a position on, which has to be an earlier one. */
        String since(int start) {
            return start >= 0 && start <= position ? letters.substring(start, position) : "";
        }
    }

    private enum Kind { NULL, BOOLEAN, NUMBER, STRING, ARRAY, OBJECT }

    /** A value with its parts; it does not change once it is read. */
    private static final class Value {
        private static final int MAX_DIGITS = 5;
        private static final int MAX_LETTERS = 12;
        private static final char NO_KEY = 0;

        private final Kind kind;
        /** A string's letters, or a word or number as written, for which there is only one way. */
        private final String letters;
        private final ArrayList<Value> parts;
        private char key;
        private int count;

        private Value(Kind kind, String letters) {
            this.kind = kind;
            this.letters = letters;
            parts = new ArrayList<Value>();
            key = NO_KEY;
            count = 1;
        }

        /** The value that the whole text is, or null if it is none. */
        static Value read(Cursor cursor) {
            Value value = readValue(cursor, 0);
            return cursor.atEnd() ? value : null;
        }

        private static Value readValue(Cursor cursor, int depth) {
            switch (cursor.peek()) {
                case '[':
                    return readArray(cursor, depth);
                case '{':
                    return readObject(cursor, depth);
                case '"':
                    return readString(cursor);
                case 'n':
                    return readWord(cursor, "null", Kind.NULL);
                case 't':
                    return readWord(cursor, "true", Kind.BOOLEAN);
                case 'f':
                    return readWord(cursor, "false", Kind.BOOLEAN);
                default:
                    return readNumber(cursor);
            }
        }

        private static Value readArray(Cursor cursor, int depth) {
            if (depth >= MAX_DEPTH || !cursor.accept('[')) {
                return null;
            }
            Value array = new Value(Kind.ARRAY, "");
            if (cursor.accept(']')) {
                return array;
            }
            for (int i = 0; i < MAX_TEXT; i++) {
                Value element = readValue(cursor, depth + 1);
                if (element == null) {
                    return null;
                }
                array.add(element);
                if (!cursor.accept(',')) {
                    return cursor.accept(']') ? array : null;
                }
            }
            return null;
        }

        private static Value readObject(Cursor cursor, int depth) {
            if (depth >= MAX_DEPTH || !cursor.accept('{')) {
                return null;
            }
            Value object = new Value(Kind.OBJECT, "");
            if (cursor.accept('}')) {
                return object;
            }
            for (int i = 0; i < MAX_TEXT; i++) {
                char key = readKey(cursor);
                if (key == NO_KEY || object.member(key) != null) {
                    return null;
                }
                Value member = readValue(cursor, depth + 1);
                if (member == null) {
                    return null;
                }
                member.key = key;
                object.add(member);
                if (!cursor.accept(',')) {
                    return cursor.accept('}') ? object : null;
                }
            }
            return null;
        }

        /** The letter of a key with its quotes and the colon behind them. */
        private static char readKey(Cursor cursor) {
            if (!cursor.accept('"')) {
                return NO_KEY;
            }
            char key = cursor.peek();
            if (cursor.acceptLetters(1) == 0 || !cursor.accept('"') || !cursor.accept(':')) {
                return NO_KEY;
            }
            return key;
        }

        private static Value readString(Cursor cursor) {
            if (!cursor.accept('"')) {
                return null;
            }
            int start = cursor.position();
            cursor.acceptLetters(MAX_LETTERS);
            String letters = cursor.since(start);
            return cursor.accept('"') ? new Value(Kind.STRING, letters) : null;
        }

        private static Value readWord(Cursor cursor, String word, Kind kind) {
            return cursor.acceptWord(word) ? new Value(kind, word) : null;
        }

        private static Value readNumber(Cursor cursor) {
            if (cursor.accept('0')) {
                return new Value(Kind.NUMBER, "0");
            }
            int start = cursor.position();
            cursor.accept('-');
            if (cursor.peek() == '0' || cursor.acceptDigits(MAX_DIGITS) == 0) {
                return null;
            }
            return new Value(Kind.NUMBER, cursor.since(start));
        }

        private void add(Value part) {
            parts.add(part);
            count += part.count;
        }

        Kind kind() {
            return kind;
        }

        String letters() {
            return letters;
        }

        char key() {
            return key;
        }

        /** How many values it consists of, itself among them. */
        int count() {
            return count;
        }

        int size() {
            return parts.size();
        }

        /** The element or member of a number, or null if there is none. */
        Value part(int i) {
            return i >= 0 && i < parts.size() ? parts.get(i) : null;
        }

        /** The member with a key, or null if there is none. */
        Value member(char wanted) {
            for (int i = 0; i < parts.size(); i++) {
                Value part = parts.get(i);
                if (part.key == wanted) {
                    return part;
                }
            }
            return null;
        }

        /** Of the same kind and the same, apart from what an array or object has in it. */
        boolean isAlike(Value other) {
            return kind == other.kind && letters.equals(other.letters);
        }

        private static boolean areEqual(Value one, Value other, int depth) {
            if (depth > MAX_DEPTH || !one.isAlike(other) || one.size() != other.size()) {
                return false;
            }
            for (int i = 0; i < one.parts.size(); i++) {
                Value part = one.parts.get(i);
                Value twin = one.kind == Kind.OBJECT ? other.member(part.key) : other.part(i);
                if (twin == null || !areEqual(part, twin, depth + 1)) {
                    return false;
                }
            }
            return true;
        }
    }

    /** A row of steps: a place in a value, or the pattern of a rule. */
    private static final class Path {
        private static final int MAX_PATTERN_STEPS = 5;
        /** Each step of a written place takes two characters or more. */
        private static final int MAX_PLACE_STEPS = MAX_TEXT / 2;
        /** Added to the letter of a key, so that no key is taken for a number. */
        private static final int KEY = 1000;
        private static final int ANY_KEY = -1;
        private static final int ANY_NUMBER = -2;
        private static final int NO_STEP = -3;

        private final int[] steps;
        private int length;

        Path(int room) {
            steps = new int[room];
        }

        static int keyStep(char key) {
            return KEY + key;
        }

        /** The place that the whole text is, or null if it is none. */
        static Path readPlace(Cursor cursor) {
            Path place = readPath(cursor, MAX_PLACE_STEPS, false);
            return cursor.atEnd() ? place : null;
        }

        /** The place or pattern that the text goes on with, or null if it does not. */
        static Path readPath(Cursor cursor, int room, boolean isPattern) {
            if (!cursor.accept('$')) {
                return null;
            }
            Path path = new Path(room);
            for (int i = 0; i < room && (cursor.peek() == '.' || cursor.peek() == '['); i++) {
                int step = cursor.next() == '.' ? readKey(cursor, isPattern) : readNumber(cursor, isPattern);
                if (step == NO_STEP) {
                    return null;
                }
                path.enter(step);
            }
            return path;
        }

        private static int readKey(Cursor cursor, boolean isPattern) {
            if (isPattern && cursor.accept('*')) {
                return ANY_KEY;
            }
            char key = cursor.peek();
            return cursor.acceptLetters(1) == 1 ? keyStep(key) : NO_STEP;
        }

        private static int readNumber(Cursor cursor, boolean isPattern) {
            int step = isPattern && cursor.accept('*') ? ANY_NUMBER : readDigits(cursor, isPattern);
            return cursor.accept(']') ? step : NO_STEP;
        }

        private static int readDigits(Cursor cursor, boolean isPattern) {
            int first = cursor.peek() - '0';
            if (cursor.acceptDigits(1) == 0) {
                return NO_STEP;
            }
            int second = cursor.peek() - '0';
            // A 0 stands alone: a digit behind it is left where the step has to end.
            boolean goesOn = !isPattern && first != 0 && cursor.acceptDigits(1) == 1;
            return goesOn ? 10 * first + second : first;
        }

        void enter(int step) {
            if (length < steps.length) {
                steps[length] = step;
                length++;
            }
        }

        void leave() {
            if (length > 0) {
                length--;
            }
        }

        void clear() {
            length = 0;
        }

        int length() {
            return length;
        }

        boolean fits(Path place) {
            if (length > place.length) {
                return false;
            }
            for (int i = 0; i < length; i++) {
                if (!stepFits(steps[i], place.steps[i])) {
                    return false;
                }
            }
            return true;
        }

        private static boolean stepFits(int step, int actual) {
            return step == actual || step == (actual >= KEY ? ANY_KEY : ANY_NUMBER);
        }

        int weight() {
            int weight = 2;
            for (int i = 0; i < length; i++) {
                if (steps[i] != ANY_KEY && steps[i] != ANY_NUMBER) {
                    weight *= 2;
                }
            }
            return weight;
        }

        void appendTo(StringBuilder written) {
            written.append('$');
            for (int i = 0; i < length; i++) {
                if (steps[i] >= KEY) {
                    written.append('.').append((char) (steps[i] - KEY));
                } else {
                    written.append('[').append(steps[i]).append(']');
                }
            }
        }
    }

    /** One condition of a rule. */
    private static final class Matcher {
        private static final int MAX_PART = 6;
        private static final int MAX_ITEMS = 8;

        private final char sign;
        private final int bound;
        /** The letters behind ~ or the items between two /. */
        private final String detail;

        private Matcher(char sign, int bound, String detail) {
            this.sign = sign;
            this.bound = bound;
            this.detail = detail;
        }

        /** The matcher that the text goes on with, or null if it does not. */
        static Matcher read(Cursor cursor) {
            char sign = cursor.next();
            switch (sign) {
                case 't':
                case '=':
                case '0':
                case 'i':
                    return new Matcher(sign, 0, "");
                case '>':
                case '<':
                    return readBound(sign, cursor);
                case '~':
                    return readPart(sign, cursor);
                case '/':
                    return readItems(sign, cursor);
                default:
                    return null;
            }
        }

        private static Matcher readBound(char sign, Cursor cursor) {
            int bound = cursor.peek() - '0';
            return cursor.acceptDigits(1) == 1 ? new Matcher(sign, bound, "") : null;
        }

        private static Matcher readPart(char sign, Cursor cursor) {
            int start = cursor.position();
            return cursor.acceptLetters(MAX_PART) > 0 ? new Matcher(sign, 0, cursor.since(start)) : null;
        }

        private static Matcher readItems(char sign, Cursor cursor) {
            int start = cursor.position();
            int items = 0;
            while (items < MAX_ITEMS && (cursor.accept('.') || cursor.acceptLetters(1) == 1)) {
                items++;
                if (!cursor.accept('*')) {
                    cursor.accept('+');
                }
            }
            String detail = cursor.since(start);
            return items > 0 && cursor.accept('/') ? new Matcher(sign, 0, detail) : null;
        }

        boolean isLoose() {
            return sign == 't' || sign == '>' || sign == '<';
        }

        boolean holds(Value expected, Value actual) {
            switch (sign) {
                case 't':
                    return actual.kind() == expected.kind();
                case '=':
                    return Value.areEqual(expected, actual, 0);
                case '0':
                    return actual.kind() == Kind.NULL;
                case 'i':
                    return actual.kind() == Kind.NUMBER;
                case '>':
                    return actual.kind() == Kind.ARRAY && actual.size() >= bound;
                case '<':
                    return actual.kind() == Kind.ARRAY && actual.size() <= bound;
                case '~':
                    return actual.kind() == Kind.STRING && hasPart(actual.letters());
                default:
                    return actual.kind() == Kind.STRING && isAsItemsSay(actual.letters());
            }
        }

        private boolean hasPart(String word) {
            for (int start = 0; start + detail.length() <= word.length(); start++) {
                if (partStandsAt(word, start)) {
                    return true;
                }
            }
            return false;
        }

        private boolean partStandsAt(String word, int start) {
            for (int i = 0; i < detail.length() && start + i < word.length(); i++) {
                if (word.charAt(start + i) != detail.charAt(i)) {
                    return false;
                }
            }
            return true;
        }

        /**
         * Goes through the items with the set of all places in the word where they can have ended so
         * far (bit p: before letter p), so that no choice of an item ever has to be taken back.
         */
        private boolean isAsItemsSay(String word) {
            int ends = 1;
            for (int i = 0; i < detail.length(); i++) {
                char item = detail.charAt(i);
                if (item != '*' && item != '+') {
                    char repeat = i + 1 < detail.length() ? detail.charAt(i + 1) : item;
                    ends = endsBehind(item, repeat, word, ends);
                }
            }
            return hasBit(ends, word.length());
        }

        private static int endsBehind(char item, char repeat, String word, int starts) {
            boolean again = repeat == '*' || repeat == '+';
            int ends = repeat == '*' ? starts : 0;
            for (int p = 0; p < word.length(); p++) {
                boolean canStart = hasBit(starts, p) || (again && hasBit(ends, p));
                if (canStart && (item == '.' || item == word.charAt(p))) {
                    ends |= 1 << (p + 1);
                }
            }
            return ends;
        }

        private static boolean hasBit(int set, int bit) {
            return (set >> bit & 1) == 1;
        }
    }

    /** A pattern, and what has to hold at the places that select it. */
    private static final class Rule {
        private final Path pattern;
        private final ArrayList<Matcher> matchers;
        /** Whether one matcher that holds is enough. */
        private boolean oneIsEnough;
        private boolean loose;

        private Rule(Path pattern) {
            this.pattern = pattern;
            matchers = new ArrayList<Matcher>();
        }

        /** The rule that the whole text is, or null if it is none. */
        static Rule read(Cursor cursor) {
            Path pattern = Path.readPath(cursor, Path.MAX_PATTERN_STEPS, true);
            if (pattern == null || !cursor.accept(':')) {
                return null;
            }
            Rule made = new Rule(pattern);
            return made.readMatchers(cursor) ? made : null;
        }

        private boolean readMatchers(Cursor cursor) {
            for (int i = 0; i < MAX_TEXT; i++) {
                Matcher matcher = Matcher.read(cursor);
                if (matcher == null) {
                    return false;
                }
                matchers.add(matcher);
                loose = loose || matcher.isLoose();
                if (i == 0) {
                    // The first sign tells what all the others have to be.
                    oneIsEnough = cursor.peek() == '|';
                }
                if (!cursor.accept(oneIsEnough ? '|' : '&')) {
                    return cursor.atEnd();
                }
            }
            return false;
        }

        boolean fits(Path place) {
            return pattern.fits(place);
        }

        /** Whether it is selected before a rule that was made earlier. */
        boolean outranks(Rule earlier) {
            int weight = pattern.weight();
            int other = earlier.pattern.weight();
            return weight > other || (weight == other && pattern.length() > earlier.pattern.length());
        }

        boolean isLoose() {
            return loose;
        }

        boolean holds(Value expected, Value actual) {
            for (int i = 0; i < matchers.size(); i++) {
                if (matchers.get(i).holds(expected, actual) == oneIsEnough) {
                    return oneIsEnough;
                }
            }
            return !oneIsEnough;
        }
    }

    private static final class Interaction {
        private static final int MAX_RULES = 8;
        private static final int MAX_STATES = 3;

        private final boolean strict;
        private final Rule[] rules;
        private int ruleCount;
        private final int[] states;
        private int stateCount;
        private Value expected;

        Interaction(boolean strict) {
            this.strict = strict;
            rules = new Rule[MAX_RULES];
            states = new int[MAX_STATES];
        }

        boolean isStrict() {
            return strict;
        }

        /** The expected body, or null if there is none yet. */
        Value expected() {
            return expected;
        }

        /** Keeps the body that it has: false if another value was wanted. */
        boolean expect(Value value) {
            if (expected == null) {
                expected = value;
                return true;
            }
            return Value.areEqual(expected, value, 0);
        }

        /** The number of the new rule, or NONE if there is no room. */
        int addRule(Rule added) {
            if (ruleCount >= MAX_RULES) {
                return NONE;
            }
            rules[ruleCount] = added;
            return ruleCount++;
        }

        /** The number of the rule selected for a place, or NONE. */
        int selected(Path place) {
            int best = NONE;
            for (int i = 0; i < ruleCount; i++) {
                if (rules[i].fits(place) && (best == NONE || rules[i].outranks(rules[best]))) {
                    best = i;
                }
            }
            return best;
        }

        /** The rule of a number, or null if there is none. */
        Rule ruleAt(int number) {
            return number >= 0 && number < ruleCount ? rules[number] : null;
        }

        boolean addState(int state) {
            if (stateCount >= MAX_STATES || hasState(state)) {
                return false;
            }
            states[stateCount] = state;
            stateCount++;
            return true;
        }

        private boolean hasState(int state) {
            for (int i = 0; i < stateCount; i++) {
                if (states[i] == state) {
                    return true;
                }
            }
            return false;
        }

        int stateCount() {
            return stateCount;
        }

        int stateAt(int i) {
            return i >= 0 && i < stateCount ? states[i] : NONE;
        }
    }

    /** The handlers of the states, and the events that they led to. */
    private static final class States {
        private static final int STATES = 6;
        private static final int HANDLERS = 4;
        /** Each of 512 calls can set up three states and tear them down. */
        private static final int MAX_EVENTS = 512 * 6;

        private static final int GOOD = 1;
        private static final int FAILS_TEARING_DOWN = 3;

        private static final int WAS_SET_UP = 0;
        private static final int WAS_TORN_DOWN = 1;
        private static final int SETTING_UP_FAILED = 2;
        private static final int TEARING_DOWN_FAILED = 3;

        private final int[] handlers;
        private final int[] events;
        private int eventCount;

        States() {
            handlers = new int[STATES];
            events = new int[MAX_EVENTS];
        }

        static boolean exists(int state) {
            return state >= 0 && state < STATES;
        }

        boolean assign(int state, int handler) {
            if (!exists(state) || handler < 0 || handler >= HANDLERS) {
                return false;
            }
            handlers[state] = handler;
            return true;
        }

        boolean setUp(int state) {
            int used = handlerOf(state);
            boolean succeeds = used == GOOD || used == FAILS_TEARING_DOWN;
            note(state, succeeds ? WAS_SET_UP : SETTING_UP_FAILED);
            return succeeds;
        }

        void tearDown(int state) {
            note(state, handlerOf(state) == FAILS_TEARING_DOWN ? TEARING_DOWN_FAILED : WAS_TORN_DOWN);
        }

        private int handlerOf(int state) {
            return exists(state) ? handlers[state] : 0;
        }

        private void note(int state, int outcome) {
            if (eventCount < MAX_EVENTS) {
                events[eventCount] = 10 * state + outcome;
                eventCount++;
            }
        }

        int eventCount() {
            return eventCount;
        }

        int eventAt(int k) {
            return k >= 0 && k < eventCount ? events[k] : NONE;
        }
    }

    private static final class Mismatch {
        private final StringBuilder place;
        private int kind;

        Mismatch() {
            place = new StringBuilder();
        }

        void set(int newKind, Path newPlace) {
            kind = newKind;
            place.setLength(0);
            newPlace.appendTo(place);
        }

        int kind() {
            return kind;
        }

        int placeCode(int i) {
            if (i < 0 || i >= place.length()) {
                return NONE;
            }
            return place.charAt(i);
        }
    }

    /** Compares bodies, and keeps what the latest comparison listed. */
    private static final class Comparison {
        private static final int MAX_LISTED = 30;

        private static final int VALUE = 1;
        private static final int LENGTH = 2;
        private static final int MISSING = 3;
        private static final int UNEXPECTED = 4;
        private static final int RULE = 5;

        private final Path place;
        private final Mismatch[] mismatches;
        private int found;
        private Interaction interaction;

        Comparison() {
            place = new Path(MAX_DEPTH);
            mismatches = new Mismatch[MAX_LISTED];
            for (int i = 0; i < MAX_LISTED; i++) {
                mismatches[i] = new Mismatch();
            }
        }

        /** How many mismatches there are, also those that are not listed. */
        int run(Interaction chosen, Value actual) {
            interaction = chosen;
            found = 0;
            place.clear();
            compare(chosen.expected(), actual, 0);
            return found;
        }

        int listedCount() {
            return found < MAX_LISTED ? found : MAX_LISTED;
        }

        /** A mismatch that is listed, or null if there is none of that number. */
        Mismatch listedAt(int k) {
            return k >= 0 && k < listedCount() ? mismatches[k] : null;
        }

        private void note(int kind) {
            if (found < MAX_LISTED) {
                mismatches[found].set(kind, place);
            }
            found++;
        }

        private void compare(Value expected, Value actual, int depth) {
            if (depth > MAX_DEPTH) {
                return;
            }
            Rule selected = interaction.ruleAt(interaction.selected(place));
            if (selected == null && !expected.isAlike(actual)) {
                note(VALUE);
            } else if (selected != null && !selected.holds(expected, actual)) {
                note(RULE);
            } else if (expected.kind() == Kind.ARRAY && actual.kind() == Kind.ARRAY) {
                compareElements(expected, actual, selected != null && selected.isLoose(), depth);
            } else if (expected.kind() == Kind.OBJECT && actual.kind() == Kind.OBJECT) {
                compareMembers(expected, actual, depth);
                if (interaction.isStrict()) {
                    noteUnexpected(expected, actual);
                }
            }
        }

        private void compareElements(Value expected, Value actual, boolean loose, int depth) {
            if (!loose && expected.size() != actual.size()) {
                note(LENGTH);
            }
            int last = expected.size() - 1;
            for (int i = 0; i < actual.size(); i++) {
                Value wanted = expected.part(loose && i > last ? last : i);
                Value element = actual.part(i);
                if (wanted != null && element != null) {
                    place.enter(i);
                    compare(wanted, element, depth + 1);
                    place.leave();
                }
            }
        }

        private void compareMembers(Value expected, Value actual, int depth) {
            for (int i = 0; i < expected.size(); i++) {
                Value wanted = expected.part(i);
                if (wanted != null) {
                    place.enter(Path.keyStep(wanted.key()));
                    Value member = actual.member(wanted.key());
                    if (member == null) {
                        note(MISSING);
                    } else {
                        compare(wanted, member, depth + 1);
                    }
                    place.leave();
                }
            }
        }

        private void noteUnexpected(Value expected, Value actual) {
            for (int i = 0; i < actual.size(); i++) {
                Value member = actual.part(i);
                if (member != null && expected.member(member.key()) == null) {
                    place.enter(Path.keyStep(member.key()));
                    note(UNEXPECTED);
                    place.leave();
                }
            }
        }
    }
}
