import java.io.IOException;
import java.lang.reflect.Method;
import java.net.URL;
import java.net.URLClassLoader;
import java.nio.file.Files;
import java.nio.file.Path;
import java.util.regex.Matcher;
import java.util.regex.Pattern;
import javax.tools.ToolProvider;

/** The program in README.md compiles, and each call in it answers what is said behind it. */
public final class ReadmeTest {
    private static final Path README = Path.of("README.md");
    private static final Pattern PROGRAM = Pattern.compile("(?s)```java\n(.*?)```");
    /** A call on a line of its own, and the answer that stands behind it. */
    private static final Pattern CALL = Pattern.compile("(?m)^( +)(int \\w+ = )?(desk\\.\\w+\\(.*?\\)); +// (-?\\w+)\\b.*$");
    private static final Check CHECK = new Check();
    private static int answered;

    public static void main(String[] args) throws IOException, ReflectiveOperationException {
        String readme = Files.readString(README);
        tellsOfEveryCall(readme);
        Matcher program = PROGRAM.matcher(readme);
        CHECK.due("README.md has a program", program.find(), true);
        Matcher calls = CALL.matcher(program.group(1));
        int told = (int) calls.results().count();
        run(calls.replaceAll("$1$2ReadmeTest.due(\"$3\", $3, \"$4\");"));
        CHECK.due("how many answers were asked for", answered, told);
        CHECK.due("they are enough to show the use", told > 12, true);
        CHECK.finish();
    }

    /** Called by the program in the place of each call whose answer README.md tells; it hands the answer on. */
    public static int due(String call, int got, String want) {
        answered++;
        CHECK.due(call + " in README.md", got, want);
        return got;
    }

    /** The same for what answers true or false. */
    public static boolean due(String call, boolean got, String want) {
        answered++;
        CHECK.due(call + " in README.md", got, want);
        return got;
    }

    private static void tellsOfEveryCall(String readme) {
        for (Method method : ContractDesk.class.getMethods()) {
            if (method.getDeclaringClass() == ContractDesk.class) {
                boolean told = readme.contains("| `" + method.getName() + "(");
                CHECK.due("README.md tells of " + method.getName(), told, true);
            }
        }
        CHECK.due("README.md tells how to run the tests", readme.contains(".ci/run"), true);
    }

    private static void run(String program) throws IOException, ReflectiveOperationException {
        Path build = Files.createTempDirectory("readme");
        Path source = build.resolve("Example.java");
        Files.writeString(source, program);
        String classPath = System.getProperty("java.class.path");
        int fault = ToolProvider.getSystemJavaCompiler().run(null, null, null, "-cp", classPath, "-d", build.toString(),
                source.toString());
        CHECK.due("javac's exit code for the program in README.md", fault, 0);
        if (fault == 0) {
            try (URLClassLoader loader = new URLClassLoader(new URL[] {build.toUri().toURL()})) {
                loader.loadClass("Example").getMethod("main", String[].class).invoke(null, (Object) new String[0]);
            }
        }
        Files.deleteIfExists(build.resolve("Example.class"));
        Files.deleteIfExists(source);
        Files.deleteIfExists(build);
    }
}
