import java.io.File;
import java.io.IOException;
import java.io.StringWriter;
import java.lang.reflect.Method;
import java.lang.reflect.Modifier;
import java.net.URL;
import java.net.URLClassLoader;
import java.nio.file.Files;
import java.nio.file.Path;
import java.util.ArrayList;
import java.util.List;
import java.util.Set;
import java.util.TreeSet;
import java.util.function.IntSupplier;
import java.util.regex.Matcher;
import java.util.regex.Pattern;
import javax.tools.JavaCompiler;
import javax.tools.StandardJavaFileManager;
import javax.tools.ToolProvider;

/**
 * The calls that README.md shows are done as they stand there, each block on its own, and have to answer
 * what stands behind them: by the class, and by the model of the document.
 */
public final class ReadmeTest {
    private static final Path README = Path.of("README.md");
    private static final Pattern BLOCK = Pattern.compile("(?ms)^```java\n(.*?)^```$");
    private static final Pattern CALL = Pattern.compile(
            "(?m)^(suit\\.(\\w+)\\(.*\\)); +// (-?\\d+|BAD|NO|NONE|FULL)(: .*)?$");
    private static final String MADE = "SuitByTailors suit = new SuitByTailors();";

    private static int wrong = 0;

    private ReadmeTest() { }

    private static void due(String what, Object got, Object want) {
        if (!got.equals(want)) {
            wrong++;
            System.out.println(what + " is " + got + ", due is " + want);
        }
    }

    /** Every line of a block makes the object or is a call with its answer: none goes untested. */
    private static void allLinesAreCalls(List<String> blocks) {
        Set<String> calls = new TreeSet<>();
        Set<String> answers = new TreeSet<>();
        for (String block : blocks) {
            String[] lines = block.split("\n");
            due("the first line of a block", lines[0], MADE);
            for (int i = 1; i < lines.length; i++) {
                Matcher call = CALL.matcher(lines[i]);
                if (call.matches()) {
                    calls.add(call.group(2));
                    answers.add(call.group(3));
                } else {
                    due("a line of a block", lines[i], "a call with its answer");
                }
            }
        }
        due("the calls that are shown", calls, face());
        due("BAD, NO, NONE, FULL are shown", answers.containsAll(Set.of("BAD", "NO", "NONE", "FULL")), true);
    }

    private static Set<String> face() {
        Set<String> names = new TreeSet<>();
        for (Method m : SuitByTailors.class.getDeclaredMethods()) {
            if (Modifier.isPublic(m.getModifiers())) {
                names.add(m.getName());
            }
        }
        return names;
    }

    /** A class that does the blocks and tells how many answers are not as shown. */
    private static String program(String name, List<String> blocks) {
        StringBuilder source = new StringBuilder();
        source.append("public final class ").append(name).append(" implements java.util.function.IntSupplier {\n");
        source.append("static final int BAD = -1, NO = -2, FULL = -3, NONE = -4;\n");
        source.append("public int getAsInt() {\n");
        source.append("Checks checks = new Checks();\n");
        for (String block : blocks) {
            String asked = CALL.matcher(block).replaceAll("checks.due(\"README.md: $1\", $1, $3);");
            source.append("{\n").append(asked).append("}\n");
        }
        return source.append("return checks.wrong();\n}\n}\n").toString();
    }

    private static void run(Path room, String name, String source) throws IOException, ReflectiveOperationException {
        String classPath = System.getProperty("java.class.path");
        if (!compiles(room, name, source, classPath)) {
            return;
        }
        List<URL> places = new ArrayList<>();
        places.add(room.toUri().toURL());
        for (String place : classPath.split(File.pathSeparator)) {
            places.add(Path.of(place).toUri().toURL());
        }
        // One loader for all: the model can be seen within its own package alone.
        ClassLoader above = ClassLoader.getPlatformClassLoader();
        try (URLClassLoader loader = new URLClassLoader(places.toArray(new URL[0]), above)) {
            IntSupplier program = (IntSupplier) loader.loadClass(name).getDeclaredConstructor().newInstance();
            due("how many answers are not as shown, " + name, program.getAsInt(), 0);
        }
    }

    private static boolean compiles(Path room, String name, String source, String classPath) throws IOException {
        Path file = room.resolve(name + ".java");
        Files.writeString(file, source);
        JavaCompiler javac = ToolProvider.getSystemJavaCompiler();
        List<String> options = List.of("-cp", classPath, "-d", room.toString());
        StringWriter told = new StringWriter();
        try (StandardJavaFileManager files = javac.getStandardFileManager(null, null, null)) {
            boolean compiled = javac.getTask(told, files, null, options, null, files.getJavaFileObjects(file)).call();
            due(name + " compiles: " + told, compiled, true);
            return compiled;
        }
    }

    private static void remove(Path room) throws IOException {
        for (File file : room.toFile().listFiles()) {
            Files.delete(file.toPath());
        }
        Files.delete(room);
    }

    public static void main(String[] args) throws IOException, ReflectiveOperationException {
        String readme = Files.readString(README);
        List<String> blocks = BLOCK.matcher(readme).results().map(block -> block.group(1)).toList();
        List<String> ofModel = blocks.stream().map(block -> block.replace("SuitByTailors", "Model")).toList();
        allLinesAreCalls(blocks);
        due("README.md tells how to run the tests", readme.contains("```sh\n.ci/run\n```"), true);
        Path room = Files.createTempDirectory("readme");
        run(room, "ReadmeByClass", program("ReadmeByClass", blocks));
        run(room, "ReadmeByModel", program("ReadmeByModel", ofModel));
        remove(room);
        System.out.println("ReadmeTest: " + blocks.size() + " blocks, "
                + (wrong == 0 ? "all as due" : wrong + " not as due"));
        if (wrong != 0) {
            System.exit(1);
        }
    }
}
