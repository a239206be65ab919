import java.io.File;
import java.lang.reflect.Method;
import java.lang.reflect.Modifier;
import java.net.URI;
import java.net.URL;
import java.net.URLClassLoader;
import java.nio.file.Files;
import java.nio.file.Path;
import java.util.Comparator;
import java.util.List;
import java.util.regex.Matcher;
import java.util.regex.Pattern;
import java.util.stream.Stream;
import javax.tools.JavaCompiler;
import javax.tools.JavaFileObject.Kind;
import javax.tools.SimpleJavaFileObject;
import javax.tools.ToolProvider;

/** README.md keeps to the truth: its example answers what is written beside it, no call is left out. */
public final class ReadmeTest {
    /** A line of the example whose answer is written beside it: "call; // answer: words". */
    private static final Pattern ANSWERED = Pattern.compile("(.*);\\s*// (-?\\d+|true|false): .*");
    private static final int LEAST_ANSWERS = 10;

    private static int failures = 0;

    private static void require(boolean holds, String what) {
        if (!holds) {
            failures++;
            System.out.println("README.md: " + what);
        }
    }

    /** The example calls this for each answer that is written beside a call. */
    public static void due(String call, Object want, Object got) {
        require(want.equals(got), call + " answered " + got + ", written is " + want);
    }

    public static void main(String[] args) throws Exception {
        String text = Files.readString(Path.of("README.md"));
        for (Method method : EditionEqual.class.getDeclaredMethods()) {
            if (!Modifier.isPrivate(method.getModifiers()) && !method.isSynthetic()) {
                Pattern told = Pattern.compile("\\| `" + method.getName() + "\\(");
                require(told.matcher(text).find(), "nothing is told of " + method.getName());
            }
        }
        require(text.contains(".ci/run"), "nothing is told of how the tests are run");
        Matcher example = Pattern.compile("(?s)```java\n(.*?)```").matcher(text);
        require(example.find(), "there is no example");
        runExample(example.group(1));
        System.out.println(failures == 0 ? "README.md is true" : failures + " faults in README.md");
        if (failures != 0) {
            System.exit(1);
        }
    }

    private static void runExample(String example) throws Exception {
        StringBuilder body = new StringBuilder();
        int answers = 0;
        for (String line : example.split("\n")) {
            Matcher answered = ANSWERED.matcher(line);
            if (answered.matches()) {
                String call = answered.group(1);
                body.append("ReadmeTest.due(\"" + call + "\", " + answered.group(2) + ", " + call + ");\n");
                answers++;
            } else {
                body.append(line).append('\n');
            }
        }
        require(answers >= LEAST_ANSWERS, "only " + answers + " answers stand beside calls");
        Path folder = Files.createTempDirectory("readme");
        try {
            compileAndRun(body.toString(), folder);
        } finally {
            delete(folder);
        }
    }

    private static void compileAndRun(String body, Path folder) throws Exception {
        String program = "public class Example { public static void main(String[] args) {\n" + body + "} }\n";
        SimpleJavaFileObject source = new SimpleJavaFileObject(URI.create("string:///Example.java"), Kind.SOURCE) {
            @Override
            public CharSequence getCharContent(boolean ignoreEncodingErrors) {
                return program;
            }
        };
        JavaCompiler compiler = ToolProvider.getSystemJavaCompiler();
        List<String> options = List.of("-d", folder.toString(), "-cp", System.getProperty("java.class.path"));
        boolean compiled = compiler.getTask(null, null, null, options, null, List.of(source)).call();
        require(compiled, "the example does not compile");
        if (compiled) {
            try (URLClassLoader loader = new URLClassLoader(new URL[] {folder.toUri().toURL()})) {
                loader.loadClass("Example").getMethod("main", String[].class).invoke(null, (Object) new String[0]);
            }
        }
    }

    private static void delete(Path folder) throws Exception {
        try (Stream<Path> all = Files.walk(folder)) {
            all.sorted(Comparator.reverseOrder()).map(Path::toFile).forEach(File::delete);
        }
    }
}
