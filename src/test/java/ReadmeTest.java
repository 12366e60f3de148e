import java.io.IOException;
import java.lang.reflect.InvocationTargetException;
import java.net.URL;
import java.net.URLClassLoader;
import java.nio.charset.StandardCharsets;
import java.nio.file.Files;
import java.nio.file.Path;
import java.util.ArrayList;
import java.util.List;
import java.util.regex.Matcher;
import java.util.regex.Pattern;
import javax.tools.ToolProvider;

/**
 * The calls that README.md shows, with the answers that it tells. Its blocks are compiled as they
 * stand, so that none of them can differ from what the class does. README.md is looked for in the
 * working directory, or is the first argument.
 */
public final class ReadmeTest {
    private static final Pattern TOLD = Pattern.compile(
        "(house\\.(\\w+)\\(.*\\));\\s*// (?:throws (\\w+)|(true|false|-?\\d+))(?:: .*)?");
    private static final Pattern UNTOLD = Pattern.compile("house\\.(give|coins)\\([^/]*\\);");
    private static final String NAMES =
        "feed end compile circuit place count bits give coins run value";

    private static final StringBuilder source = new StringBuilder();
    private static final List<String> called = new ArrayList<>();
    private static int blocks = 0;

    public static void main(String[] args) throws Exception {
        Path readme = Path.of(args.length > 0 ? args[0] : "README.md");
        source.append("import java.util.NoSuchElementException;\n");
        source.append("public final class Shown {\n");
        for (List<String> block : blocksOf(Files.readAllLines(readme))) {
            write(block);
        }
        source.append("public static void main(String[] args) {\n");
        for (int n = 0; n < blocks; n++) {
            source.append("shown").append(n).append("();\n");
        }
        source.append("}\n}\n");
        compileAndRun();
        for (String name : NAMES.split(" ")) {
            Kit.due("README.md shows " + name, called.contains(name), true);
        }
        Kit.finish();
    }

    private static List<List<String>> blocksOf(List<String> lines) {
        List<List<String>> found = new ArrayList<>();
        boolean within = false;
        for (String line : lines) {
            if (line.startsWith("```")) {
                within = line.equals("```java");
                if (within) {
                    found.add(new ArrayList<>());
                }
            } else if (within) {
                found.get(found.size() - 1).add(line);
            }
        }
        return found;
    }

    /** A block of methods stands as it is; one of calls becomes a method. */
    private static void write(List<String> block) {
        boolean methods = !block.isEmpty() && block.get(0).startsWith("static ");
        if (!methods) {
            source.append("static void shown").append(blocks).append("() {\n");
            blocks++;
        }
        for (String line : block) {
            source.append(methods ? line : asked(line)).append('\n');
        }
        source.append(methods ? "" : "}\n");
    }

    private static String asked(String line) {
        if (!line.startsWith("house.")) {
            return line;
        }
        Matcher told = TOLD.matcher(line);
        if (!told.matches()) {
            Matcher untold = UNTOLD.matcher(line);
            boolean good = untold.matches();
            Kit.due("an answer is told in README.md: " + line, good, true);
            if (good) {
                called.add(untold.group(1));
            }
            return line;
        }
        called.add(told.group(2));
        String call = told.group(1);
        String what = '"' + call.replace("\\", "\\\\").replace("\"", "\\\"") + '"';
        if (told.group(3) != null) {
            return "try { " + call + "; ReadmeTest.threw(" + what + ", false); } catch ("
                + told.group(3) + " none) { ReadmeTest.threw(" + what + ", true); }";
        }
        return "ReadmeTest.answered(" + what + ", String.valueOf(" + call + "), \""
            + told.group(4) + "\");";
    }

    /** Called by what README.md's blocks became. */
    public static void answered(String call, String got, String want) {
        Kit.due("README.md tells " + want + " for " + call + ", which answered " + got,
            got.equals(want), true);
    }

    /** Called by what README.md's blocks became. */
    public static void threw(String call, boolean got) {
        Kit.due("README.md tells that it throws: " + call, got, true);
    }

    private static void compileAndRun() throws IOException, ReflectiveOperationException {
        Path directory = Files.createTempDirectory("shown");
        Path file = directory.resolve("Shown.java");
        Path compiled = directory.resolve("Shown.class");
        try {
            Files.write(file, source.toString().getBytes(StandardCharsets.UTF_8));
            int code = ToolProvider.getSystemJavaCompiler().run(null, null, null, "-cp",
                System.getProperty("java.class.path"), "-d", directory.toString(), file.toString());
            Kit.due("README.md's blocks compile", code, 0);
            if (code == 0) {
                run(directory);
            }
        } finally {
            Files.deleteIfExists(file);
            Files.deleteIfExists(compiled);
            Files.deleteIfExists(directory);
        }
    }

    private static void run(Path directory) throws IOException, ReflectiveOperationException {
        URL[] places = {directory.toUri().toURL()};
        try (URLClassLoader loader = new URLClassLoader(places, ReadmeTest.class.getClassLoader())) {
            Object arguments = new String[0];
            loader.loadClass("Shown").getMethod("main", String[].class).invoke(null, arguments);
        } catch (InvocationTargetException thrown) {
            thrown.getCause().printStackTrace();
            Kit.due("README.md's blocks throw only what it tells", false, true);
        }
    }
}
