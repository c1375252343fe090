import java.lang.reflect.Method;
import java.net.URL;
import java.net.URLClassLoader;
import java.nio.file.Files;
import java.nio.file.Path;
import java.util.ArrayList;
import java.util.List;
import java.util.Map;
import java.util.Set;
import java.util.TreeSet;
import java.util.regex.Matcher;
import java.util.regex.Pattern;
import javax.tools.ToolProvider;

/**
 * What README.md shows of the use of the class: its examples are compiled as they stand there, as one program, and each
 * call answers what stands behind it.
 */
public final class ReadmeTest {
    private static final Path README = Path.of("README.md");
    private static final Pattern BLOCK = Pattern.compile("```java\n(.*?)```", Pattern.DOTALL);
    /** A call by itself on a line, the number that it answers, the name of that number, if it has one, and some words. */
    private static final Pattern ANSWERED = Pattern.compile("(box\\.([a-z]+)\\([-0-9, ]*\\)); +// (-?[0-9]+)(?: \\(([A-Z]+)\\))?: .+");
    private static final Pattern TOLD = Pattern.compile("\\| *(-[0-9]+) `([A-Z]+)` *\\|.*");
    private static final Map<String, Integer> NAMED = Map.of("NONE", FuseBox.NONE, "BAD", FuseBox.BAD, "STATE", FuseBox.STATE,
        "FULL", FuseBox.FULL, "NULL", -1000011, "PLACE", -1000012, "KIND", -1000013, "SIZE", -1000014, "STORE", -1000015);

    private static final Due DUE = new Due();

    public static void main(String[] args) throws Exception {
        String readme = Files.readString(README);
        Set<String> shown = new TreeSet<>();
        run(program(readme, shown));
        everyCallIsShown(shown);
        names(readme);
        DUE.end();
    }

    /** Public, as the program of the examples, which has a loader of its own, calls it. */
    public static void due(String call, int got, int want) {
        DUE.at("README.md");
        DUE.is(call, got, want);
    }

    private static String program(String readme, Set<String> shown) {
        StringBuilder body = new StringBuilder();
        Matcher blocks = BLOCK.matcher(readme);
        while (blocks.find()) {
            for (String line : blocks.group(1).split("\n")) {
                body.append(held(line, shown)).append('\n');
            }
        }
        return "public final class Shown { public static void main(String[] args) {\n" + body + "} }\n";
    }

    private static String held(String line, Set<String> shown) {
        Matcher m = ANSWERED.matcher(line);
        if (m.matches()) {
            shown.add(m.group(2));
            if (m.group(4) != null) {
                DUE.at("README.md, the name of an answer");
                DUE.is(line, Integer.parseInt(m.group(3)), NAMED.getOrDefault(m.group(4), 0));
            }
            return "ReadmeTest.due(\"" + m.group(1) + "\", " + m.group(1) + ", " + m.group(3) + ");";
        }
        if (line.contains("box.feed(letter);")) {
            shown.add("feed");
        } else {
            DUE.at("README.md, a call without its answer");
            DUE.holds(line, !line.contains("box."));
        }
        return line;
    }

    private static void run(String program) throws Exception {
        Path dir = Files.createTempDirectory("readme");
        Path source = dir.resolve("Shown.java");
        List<Path> made = new ArrayList<>(List.of(source, dir.resolve("Shown.class"), dir));
        try {
            Files.writeString(source, program);
            int failed = ToolProvider.getSystemJavaCompiler().run(null, null, null,
                "-cp", System.getProperty("java.class.path"), "-d", dir.toString(), source.toString());
            DUE.at("README.md");
            DUE.is("compiling its examples", failed, 0);
            if (failed == 0) {
                call(dir);
            }
        } finally {
            for (Path p : made) {
                Files.deleteIfExists(p);
            }
        }
    }

    private static void call(Path dir) throws Exception {
        try (URLClassLoader loader = new URLClassLoader(new URL[] {dir.toUri().toURL()}, ReadmeTest.class.getClassLoader())) {
            Method main = loader.loadClass("Shown").getMethod("main", String[].class);
            main.invoke(null, (Object) new String[0]);
        }
    }

    private static void everyCallIsShown(Set<String> shown) {
        DUE.at("README.md shows each call");
        for (Method m : FuseBox.class.getMethods()) {
            if (m.getDeclaringClass() == FuseBox.class) {
                DUE.holds(m.getName(), shown.contains(m.getName()));
            }
        }
    }

    private static void names(String readme) {
        DUE.at("README.md, the names of refusals");
        int told = 0;
        for (String line : readme.split("\n")) {
            Matcher m = TOLD.matcher(line);
            if (m.matches()) {
                told++;
                DUE.is(line, Integer.parseInt(m.group(1)), NAMED.getOrDefault(m.group(2), 0));
            }
        }
        DUE.is("names", told, 4);
    }
}
