import java.io.IOException;
import java.nio.file.Files;
import java.nio.file.Path;
import java.util.Set;
import java.util.TreeSet;
import java.util.regex.MatchResult;
import java.util.regex.Matcher;
import java.util.regex.Pattern;
import java.util.stream.Collectors;

/** What can be seen of the rules of LANGUAGE.md in the source, by looking at its words alone. */
public final class LanguageTest {
    private static final Path SOURCE = Path.of("src/main/java/ContractDesk.java");
    private static final Set<String> LIBRARY = Set.of("length", "charAt", "isEmpty", "equals", "indexOf", "substring",
            "toCharArray", "append", "setCharAt", "setLength", "deleteCharAt", "reverse", "toString", "add", "get", "set",
            "remove", "size", "clear", "max", "min", "abs", "arraycopy", "fill", "copyOf", "copyOfRange");
    private static final Set<String> BANNED = Set.of("package", "finally", "synchronized", "assert", "var", "Object",
            "protected", "native", "volatile", "transient", "hashCode", "getClass", "System", "Thread", "Random", "record");
    private static final Set<String> FACE_THAT_THROWS = Set.of("make", "body", "rule", "verify");
    private static final Pattern METHOD =
            Pattern.compile("(?m)^( +)(?:[\\w<>\\[\\]]+ )+(\\w+)\\(([^()]*)\\)(?: throws [\\w, ]+)? \\{$");

    private final String code;
    private final Check check = new Check();

    private LanguageTest(String source) {
        code = source.replaceAll("(?s)/\\*.*?\\*/", "").replaceAll("//[^\n]*", "")
                .replaceAll("\"[^\"\n]*\"", "\"\"").replaceAll("'(?:\\\\.|[^'])'", "' '");
    }

    public static void main(String[] args) throws IOException {
        LanguageTest test = new LanguageTest(Files.readString(SOURCE));
        test.onlyKnownWords();
        test.onlyKnownCalls();
        test.methodsAreSmall();
        test.check.finish();
    }

    private Set<String> found(String regex, int group) {
        return Pattern.compile(regex).matcher(code).results().map(match -> match.group(group))
                .collect(Collectors.toCollection(TreeSet::new));
    }

    private void onlyKnownWords() {
        Set<String> words = found("\\b[A-Za-z]\\w*", 0);
        words.retainAll(BANNED);
        check.due("words that are not of the language", words, "[]");
        Set<String> imports = found("import ([^;]*);", 1);
        imports.removeAll(Set.of("java.util.ArrayList", "java.util.Arrays", "java.util.Iterator", "java.util.List"));
        check.due("imports of what is not listed", imports, "[]");
        check.due("lambdas and method references", found("->|::", 0), "[]");
        check.due("static blocks", found("static \\{", 0), "[]");
        check.due("static fields that are not final", found("static (?!final|int [a-z]\\w*\\(|\\w+ \\w+\\()[^;({]*;", 0), "[]");
        check.due("texts that are joined by +", found("\"\" \\+|\\+ \"\"|\\+= \"\"", 0), "[]");
        long classes = Pattern.compile("\\b(?:class|enum|interface) \\w+").matcher(code).results().count();
        check.due("more than twelve classes", classes > 12, false);
    }

    private void onlyKnownCalls() {
        Set<String> own = METHOD.matcher(code).results().map(match -> match.group(2)).collect(Collectors.toSet());
        Set<String> called = found("\\.(\\w+)\\(", 1);
        called.removeAll(own);
        called.removeAll(LIBRARY);
        check.due("calls of what is not listed", called, "[]");
        Set<String> made = found("new (\\w+)[<(\\[]", 1);
        made.removeAll(found("(?:class|enum) (\\w+)", 1));
        made.removeAll(Set.of("ArrayList", "StringBuilder", "String", "int", "long", "char", "byte", "boolean",
                "IllegalArgumentException", "IllegalStateException"));
        check.due("objects that are made of what is not listed", made, "[]");
    }

    private void methodsAreSmall() {
        Matcher matcher = METHOD.matcher(code);
        int seen = 0;
        for (MatchResult method : matcher.results().toList()) {
            String name = method.group(2);
            String end = "\n" + method.group(1) + "}\n";
            String text = code.substring(method.start(), code.indexOf(end, method.start()));
            check.due("lines of " + name + " beyond 60", Math.max(0, text.lines().count() - 60), 0);
            check.due("parameters of " + name + " beyond 7", Math.max(0, method.group(3).split(",").length - 7), 0);
            if (text.contains("throw ")) {
                check.due(name + " may throw", FACE_THAT_THROWS.contains(name), true);
            }
            seen++;
        }
        check.due("methods are found", seen > 12, true);
    }
}
