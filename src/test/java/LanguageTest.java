import java.lang.management.ManagementFactory;
import java.lang.reflect.Field;
import java.lang.reflect.Method;
import java.lang.reflect.Modifier;
import java.nio.file.Files;
import java.nio.file.Path;
import java.util.ArrayList;
import java.util.List;
import java.util.Map;
import java.util.TreeMap;
import java.util.regex.Matcher;
import java.util.regex.Pattern;

/** What LANGUAGE.md rules out, as far as the program's text and classes show it plainly. */
public final class LanguageTest {
    private static final String[] RULED_OUT = {"->", "::", "\\btry\\b", "\\bcatch\\b", "\\bfinally\\b",
        "\\bsynchronized\\b", "\\bassert\\b", "\\bvar\\b", "\\bSystem\\.(?!arraycopy)", "Exact\\(", "\\bThread\\b",
        "\\bRandom\\b", "\\bObject\\b", "\\bpackage\\b", "\\bprotected\\b", "\\bhashCode\\b", "\\btoString\\b",
        "\\binstanceof\\b", "static \\{", "\\bdouble\\b", "\\bfloat\\b", "\\bgetMessage\\b"};

    private static int failures = 0;

    private static void require(boolean holds, String what) {
        if (!holds) {
            failures++;
            System.out.println("not kept: " + what);
        }
    }

    public static void main(String[] args) throws Exception {
        String text = Files.readString(Path.of("src/main/java/EditionEqual.java"));
        String code = text.replaceAll("(?s)/\\*.*?\\*/", "").replaceAll("//[^\n]*", "").replaceAll("\"[^\"\n]*\"", "\"\"");
        for (String word : RULED_OUT) {
            require(!Pattern.compile(word).matcher(code).find(), "no " + word);
        }
        Matcher imports = Pattern.compile("import ([^;]*);").matcher(code);
        while (imports.find()) {
            require(imports.group(1).equals("java.util.Arrays"), "no import of " + imports.group(1));
        }
        Matcher thrown = Pattern.compile("throw ([^;]*);").matcher(code);
        while (thrown.find()) {
            require(thrown.group(1).matches("new Illegal(Argument|State)Exception\\(\"\"\\)"), thrown.group());
        }
        lookAtHeadings(text);
        lookAtClasses();
        lookAtMethods(code);
        lookAtRoom();
        System.out.println(failures == 0 ? "the language is kept" : failures + " rules are not kept");
        if (failures != 0) {
            System.exit(1);
        }
    }

    /** The document's three headings, each right ahead of the call that it names first. */
    private static void lookAtHeadings(String text) {
        String[][] headings = {{"ticks", "int value("}, {"both", "int compare("}, {"structure", "boolean same("}};
        for (String[] heading : headings) {
            Pattern ahead = Pattern.compile("// ---- " + heading[0] + "\n\n    public " + Pattern.quote(heading[1]));
            require(ahead.matcher(text).find(), "---- " + heading[0] + " ahead of " + heading[1]);
        }
    }

    /** Lengths of methods, and how deep they call one another; those of one name count as one. */
    private static void lookAtMethods(String code) {
        Pattern starts = Pattern.compile("(?m)^((?: {4}| {8}))(?:\\w+ )*(\\w+)\\([^;{}]*\\{\n((?s).*?)^\\1\\}$");
        Map<String, String> bodies = new TreeMap<>();
        Matcher methods = starts.matcher(code);
        while (methods.find()) {
            String name = methods.group(2);
            long lines = methods.group().lines().count();
            require(lines <= 60, name + " has at most sixty lines, not " + lines);
            bodies.merge(name, methods.group(3), String::concat);
        }
        require(bodies.size() > 60, "methods are found (" + bodies.size() + ")");
        for (String name : bodies.keySet()) {
            int depth = depthOf(name, bodies, 0);
            require(depth <= 8, name + " calls at most eight deep, not " + depth);
        }
    }

    /** A method that calls itself comes out far too deep, so that it is found here too. */
    private static int depthOf(String name, Map<String, String> bodies, int open) {
        int deepest = 0;
        Matcher calls = Pattern.compile("\\b(\\w+)\\(").matcher(bodies.get(name));
        while (open < 10 && calls.find()) {
            if (bodies.containsKey(calls.group(1))) {
                deepest = Math.max(deepest, depthOf(calls.group(1), bodies, open + 1));
            }
        }
        return 1 + deepest;
    }

    private static void lookAtClasses() {
        List<Class<?>> classes = new ArrayList<>(List.of(EditionEqual.class.getDeclaredClasses()));
        require(classes.size() < 12, "at most twelve classes");
        for (Class<?> inside : classes) {
            require(Modifier.isStatic(inside.getModifiers()), inside.getName() + " is static");
            require(!Modifier.isPublic(inside.getModifiers()), inside.getName() + " is not public");
        }
        classes.add(EditionEqual.class);
        for (Class<?> each : classes) {
            int fields = 0;
            for (Field field : each.getDeclaredFields()) {
                boolean fixed = Modifier.isStatic(field.getModifiers());
                require(!fixed || Modifier.isFinal(field.getModifiers()), field + " is final");
                require(!fixed || field.getType() == int.class || field.getType() == int[].class, field + " is of int");
                fields += fixed ? 0 : 1;
            }
            require(fields <= 20, each.getName() + " has at most twenty fields");
            for (Method method : each.getDeclaredMethods()) {
                require(method.getParameterCount() <= 7, method + " takes at most seven parameters");
            }
        }
    }

    /** All calls of a run share one room: arrays are made by the constructor, none by a call. */
    private static void lookAtRoom() {
        com.sun.management.ThreadMXBean meter = (com.sun.management.ThreadMXBean) ManagementFactory.getThreadMXBean();
        long id = Thread.currentThread().getId();
        meter.getThreadAllocatedBytes(id);
        EditionEqual x = new EditionEqual(4);
        dearCalls(x);
        long before = meter.getThreadAllocatedBytes(id);
        for (int i = 0; i < 25; i++) {
            dearCalls(x);
        }
        long used = meter.getThreadAllocatedBytes(id) - before;
        require(used < 20000, "calls make no arrays (made " + used + " bytes)");
        before = meter.getThreadAllocatedBytes(id);
        new EditionEqual(4);
        used = meter.getThreadAllocatedBytes(id) - before;
        require(used < 60000, "a new object stays small (made " + used + " bytes)");
    }

    private static void dearCalls(EditionEqual x) {
        if (x.blocks(0) == 0) {
            for (int edition = 0; edition < 2; edition++) {
                x.block(edition, 0, 2 * edition);
                x.block(edition, 0, 2 * edition + 1);
                for (int block = 2; block < 7; block++) {
                    x.block(edition, 6, 0);
                    x.wire(edition, block, 0, block - 2);
                }
                x.out(edition, 0, 6);
            }
        }
        x.bar(0, false);
        x.wrong(0);
        x.value(0, 6, 31, 15);
        x.tick(1, 31, 15);
        x.reached(0);
        x.state(0, 31);
        x.least(0);
        x.compare();
        x.shown(0);
        x.last(0);
        x.pairs();
        x.same();
        x.matched(0);
        x.idle(0, 0);
    }
}
