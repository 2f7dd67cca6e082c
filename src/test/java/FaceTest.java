import java.io.IOException;
import java.lang.reflect.Constructor;
import java.lang.reflect.Field;
import java.lang.reflect.Method;
import java.lang.reflect.Modifier;
import java.nio.file.Files;
import java.nio.file.Path;
import java.util.Set;
import java.util.TreeSet;
import java.util.regex.MatchResult;
import java.util.regex.Matcher;
import java.util.regex.Pattern;
import java.util.stream.Collectors;

/** The class has the document's face and no other member that is not private. */
public final class FaceTest {
    private static final Path DOCUMENT = Path.of("../shared/DOC.md");
    private static final Pattern SHOWN = Pattern.compile("(?s)```java\n(.*?)```");
    private static final Pattern METHOD = Pattern.compile("(?m)^    (public \\w+) (\\w+\\(.*?\\).*);$");

    public static void main(String[] args) throws IOException {
        Check check = new Check();
        check.due("the class's modifiers", Modifier.toString(ContractDesk.class.getModifiers()), "public final");
        methods(check, documentsMethods());
        constructorsAndFields(check);
        classesInside(check);
        check.finish();
    }

    /** The methods as the document shows them, in the way in which Java writes them out. */
    private static Set<String> documentsMethods() throws IOException {
        Matcher shown = SHOWN.matcher(Files.readString(DOCUMENT));
        String face = shown.find() ? shown.group(1) : "";
        return METHOD.matcher(face).results().map(FaceTest::withoutNames).collect(Collectors.toCollection(TreeSet::new));
    }

    private static String withoutNames(MatchResult method) {
        return method.group(1) + " ContractDesk." + method.group(2)
                .replaceAll("(int|long|boolean) \\w+", "$1").replace(", ", ",")
                .replaceAll("(Illegal\\w+)", "java.lang.$1");
    }

    private static void methods(Check check, Set<String> documents) {
        Set<String> shown = new TreeSet<>();
        Set<String> shownNames = new TreeSet<>();
        Set<String> hiddenNames = new TreeSet<>();
        for (Method method : ContractDesk.class.getDeclaredMethods()) {
            if (Modifier.isPrivate(method.getModifiers())) {
                hiddenNames.add(method.getName());
            } else {
                shown.add(method.toString());
                shownNames.add(method.getName());
            }
        }
        check.due("how many methods the document shows", documents.size(), 12);
        check.due("the methods", shown, documents);
        hiddenNames.retainAll(shownNames);
        check.due("private methods with a public one's name", hiddenNames, "[]");
    }

    private static void constructorsAndFields(Check check) {
        Constructor<?>[] constructors = ContractDesk.class.getDeclaredConstructors();
        check.due("how many constructors", constructors.length, 1);
        check.due("the constructor", constructors[0], "public ContractDesk()");
        for (Field field : ContractDesk.class.getDeclaredFields()) {
            if (field.getName().equals("NONE")) {
                check.due("NONE", field, "public static final int ContractDesk.NONE");
            } else {
                check.due(field + " is private", Modifier.isPrivate(field.getModifiers()), true);
            }
        }
    }

    private static void classesInside(Check check) {
        for (Class<?> inside : ContractDesk.class.getDeclaredClasses()) {
            int modifiers = inside.getModifiers();
            check.due(inside + " is static", Modifier.isStatic(modifiers), true);
            check.due(inside + " is not shown", Modifier.isPublic(modifiers) || Modifier.isProtected(modifiers), false);
        }
    }
}
