import java.io.IOException;
import java.lang.reflect.Method;
import java.lang.reflect.Modifier;
import java.net.URL;
import java.net.URLClassLoader;
import java.nio.file.Files;
import java.nio.file.Path;
import java.util.ArrayList;
import java.util.List;
import java.util.Set;
import java.util.TreeSet;
import java.util.regex.Matcher;
import java.util.regex.Pattern;
import java.util.stream.Collectors;
import java.util.stream.Stream;
import javax.tools.JavaCompiler;
import javax.tools.ToolProvider;

/**
 * The examples of README.md (its path is args[1]) answer as it says: they are taken out of its text
 * and compiled, each call with its answer behind it, so that the page cannot tell another thing
 * than is tested. All examples are one run, in their order.
 */
public final class ReadmeTest {
    private static final Pattern CALL =
        Pattern.compile("^((?:x|new WhatWasHers\\(\\))\\.(\\w+)\\(.*\\));\\s*// ([^:]+): .+$");
    private static final Pattern TEST_NAME = Pattern.compile("(\\w+Test)\\.java");
    private static final Set<String> shown = new TreeSet<>();
    private static int wrong;

    public static void main(String[] args) throws Exception {
        Path readme = Path.of(args[1]);
        List<String> lines = Files.readAllLines(readme);
        runExample(exampleOf(lines));
        hold(shown.equals(faceNames()), "the examples show every call: " + shown);
        namesOfTests(readme, String.join("\n", lines));
        System.out.println(wrong == 0 ? "the page is as due" : wrong + " faults of the page");
        if (wrong != 0) {
            System.exit(1);
        }
    }

    /** All Java examples of the page as one class, whose run() counts answers. */
    private static String exampleOf(List<String> lines) {
        List<String> code = new ArrayList<>();
        boolean inside = false;
        for (String line : lines) {
            if (line.startsWith("```")) {
                inside = line.equals("```java");
            } else if (inside) {
                code.add(withAnswer(line));
            }
        }
        hold(!inside, "each example ends");
        return "public final class ReadmeExample {\n"
            + "static final int NONE = WhatWasHers.NONE;\n"
            + "static final long NOT = WhatWasHers.NOT;\n"
            + "static int wrong;\n"
            + "static void due(String call, long got, long want) {\n"
            + "if (got != want) { wrong++; System.out.println(\"README.md: \" + call"
            + " + \" answered \" + got + \", the page says \" + want); } }\n"
            + "public static int run() {\n" + String.join("\n", code) + "\nreturn wrong; } }\n";
    }

    /** A line of an example; a call that begins a line must have its answer behind it. */
    private static String withAnswer(String line) {
        Matcher m = CALL.matcher(line);
        if (m.matches()) {
            shown.add(m.group(2));
            return "due(\"" + m.group(1) + "\", " + m.group(1) + ", " + m.group(3) + ");";
        }
        hold(!line.startsWith("x.") && !line.startsWith("new "), "an answer behind: " + line);
        Matcher within = Pattern.compile("\\bx\\.(\\w+)\\(").matcher(line);
        while (within.find()) {
            shown.add(within.group(1));
        }
        return line;
    }

    private static void runExample(String source) throws Exception {
        Path room = Files.createTempDirectory("readme");
        Path file = room.resolve("ReadmeExample.java");
        try {
            Files.writeString(file, source);
            JavaCompiler compiler = ToolProvider.getSystemJavaCompiler();
            int compiled = compiler.run(null, null, null, "-cp",
                System.getProperty("java.class.path"), "-d", room.toString(), file.toString());
            hold(compiled == 0, "the examples compile");
            if (compiled == 0) {
                try (URLClassLoader loader = new URLClassLoader(new URL[] {room.toUri().toURL()})) {
                    wrong += (int) loader.loadClass("ReadmeExample").getMethod("run").invoke(null);
                }
            }
        } finally {
            Files.deleteIfExists(room.resolve("ReadmeExample.class"));
            Files.deleteIfExists(file);
            Files.deleteIfExists(room);
        }
    }

    private static Set<String> faceNames() {
        Set<String> names = new TreeSet<>();
        for (Method m : WhatWasHers.class.getDeclaredMethods()) {
            if (Modifier.isPublic(m.getModifiers())) {
                names.add(m.getName());
            }
        }
        return names;
    }

    /** The page names each test of the project, and none that is not there. */
    private static void namesOfTests(Path readme, String page) throws IOException {
        Path tests = readme.toAbsolutePath().getParent().resolve("src/test/java");
        Set<String> there;
        try (Stream<Path> files = Files.list(tests)) {
            there = files.map(f -> TEST_NAME.matcher(f.getFileName().toString()))
                .filter(Matcher::matches).map(m -> m.group(1))
                .collect(Collectors.toCollection(TreeSet::new));
        }
        Set<String> named = new TreeSet<>();
        Matcher m = Pattern.compile("`(\\w+Test)`").matcher(page);
        while (m.find()) {
            named.add(m.group(1));
        }
        hold(named.equals(there), "the page names the tests " + there + ", and not " + named);
    }

    private static void hold(boolean holds, String what) {
        if (!holds) {
            wrong++;
            System.out.println("does not hold: " + what);
        }
    }
}
