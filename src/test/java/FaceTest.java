import java.lang.reflect.Constructor;
import java.lang.reflect.Field;
import java.lang.reflect.Method;
import java.lang.reflect.Modifier;
import java.util.Set;
import java.util.TreeSet;

/** The class has the document's face and no other member that is not private. */
public final class FaceTest {
    private static final String ARGUMENT = " throws java.lang.IllegalArgumentException";
    private static final String BOTH = ARGUMENT + ",java.lang.IllegalStateException";
    private static final String[] METHODS = {
        "public boolean ContractDesk.write(long)",
        "public int ContractDesk.make(boolean) throws java.lang.IllegalStateException",
        "public int ContractDesk.body(int)" + BOTH,
        "public int ContractDesk.rule(int)" + BOTH,
        "public boolean ContractDesk.needs(int,int)",
        "public boolean ContractDesk.handler(int,int)",
        "public int ContractDesk.select(int)",
        "public int ContractDesk.verify(int)" + BOTH,
        "public int ContractDesk.listed()",
        "public int ContractDesk.mismatch(int)",
        "public int ContractDesk.letter(int,int)",
        "public int ContractDesk.event(int)",
    };

    public static void main(String[] args) {
        Check check = new Check();
        check.due("the class's modifiers", Modifier.toString(ContractDesk.class.getModifiers()), "public final");
        methods(check);
        constructorsAndFields(check);
        classesInside(check);
        check.finish();
    }

    private static void methods(Check check) {
        Set<String> shown = new TreeSet<>();
        Set<String> shownNames = new TreeSet<>();
        Set<String> hiddenNames = new TreeSet<>();
        for (Method method : ContractDesk.class.getDeclaredMethods()) {
            if (Modifier.isPrivate(method.getModifiers())) {
                hiddenNames.add(method.getName());
            } else {
                shown.add(method.toString());
                shownNames.add(method.getName());
            }
        }
        check.due("the methods", shown, new TreeSet<>(Set.of(METHODS)));
        hiddenNames.retainAll(shownNames);
        check.due("private methods with a public one's name", hiddenNames, "[]");
    }

    private static void constructorsAndFields(Check check) {
        Constructor<?>[] constructors = ContractDesk.class.getDeclaredConstructors();
        check.due("how many constructors", constructors.length, 1);
        check.due("the constructor", constructors[0], "public ContractDesk()");
        for (Field field : ContractDesk.class.getDeclaredFields()) {
            if (field.getName().equals("NONE")) {
                check.due("NONE", field, "public static final int ContractDesk.NONE");
            } else {
                check.due(field + " is private", Modifier.isPrivate(field.getModifiers()), true);
            }
        }
    }

    private static void classesInside(Check check) {
        for (Class<?> inside : ContractDesk.class.getDeclaredClasses()) {
            int modifiers = inside.getModifiers();
            check.due(inside + " is static", Modifier.isStatic(modifiers), true);
            check.due(inside + " is not shown", Modifier.isPublic(modifiers) || Modifier.isProtected(modifiers), false);
        }
    }
}
