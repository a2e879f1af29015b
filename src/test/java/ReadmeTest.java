import java.io.IOException;
import java.lang.reflect.Method;
import java.lang.reflect.Modifier;
import java.net.URL;
import java.net.URLClassLoader;
import java.nio.file.Files;
import java.nio.file.Path;
import java.util.ArrayList;
import java.util.List;
import java.util.Set;
import java.util.TreeSet;
import java.util.regex.Matcher;
import java.util.regex.Pattern;
import javax.tools.JavaCompiler;
import javax.tools.ToolProvider;

/** README.md has the document's face, tells each call, and its example answers as it says. */
public final class ReadmeTest {
    private static final Pattern BLOCK = Pattern.compile("```java\n(.*?)```", Pattern.DOTALL);
    /** A call that stands alone on its line, and its answer: a number or a constant, perhaps with words behind it. */
    private static final Pattern ANSWERED =
        Pattern.compile("blocks\\.(\\w+)\\((.*)\\); +// (-?\\d+|MovedBlocks\\.[A-Z]+)(: .*)?");
    private static final int CALLS_MOST = 512;
    private static int wrong = 0;

    public static void main(String[] args) throws Exception {
        String readme = Files.readString(Path.of("README.md"));
        List<String> blocks = javaBlocks(readme);
        ask(blocks.size() == 2, "README.md has two pieces of Java, the face and the example");
        if (blocks.size() == 2) {
            String face = javaBlocks(Files.readString(Path.of("../shared/DOC.md"))).get(0);
            ask(blocks.get(0).equals(face), "the face is the document's");
            namesEachCall(readme, blocks.get(1));
            runExample(blocks.get(1));
        }
        System.out.println(wrong == 0 ? "README.md is as the class" : wrong + " things in README.md are wrong");
        if (wrong != 0) {
            System.exit(1);
        }
    }

    /** The example's lines call this, too. */
    public static void due(String call, int got, int want) {
        ask(got == want, call + " answers " + got + ", README.md says " + want);
    }

    private static void ask(boolean holds, String what) {
        if (!holds) {
            wrong++;
            System.out.println(what);
        }
    }

    private static List<String> javaBlocks(String page) {
        List<String> blocks = new ArrayList<>();
        Matcher block = BLOCK.matcher(page);
        while (block.find()) {
            blocks.add(block.group(1));
        }
        return blocks;
    }

    private static void namesEachCall(String readme, String example) {
        Set<String> answered = new TreeSet<>();
        example.lines().map(ANSWERED::matcher).filter(Matcher::matches).forEach(m -> answered.add(m.group(1)));
        for (Method method : MovedBlocks.class.getDeclaredMethods()) {
            if (Modifier.isPublic(method.getModifiers())) {
                ask(readme.contains("| `" + method.getName() + "("), method.getName() + " stands in a table");
                ask(answered.contains(method.getName()), method.getName() + " stands in the example with its answer");
            }
        }
    }

    /** Each line of one call is checked by its answer, all others are run as they stand. */
    private static void runExample(String example) throws Exception {
        StringBuilder code = new StringBuilder("public final class Example { public static void run() {\n");
        for (String line : example.split("\n")) {
            Matcher answered = ANSWERED.matcher(line);
            if (answered.matches()) {
                String call = answered.group(1) + "(" + answered.group(2) + ")";
                code.append("ReadmeTest.due(\"").append(call).append("\", blocks.").append(call).append(", ")
                    .append(answered.group(3)).append(");\n");
            } else {
                ask(!line.startsWith("blocks."), "a call without its answer: " + line);
                code.append(line).append('\n');
            }
        }
        ask(example.split("blocks\\.").length < CALLS_MOST / 2, "the example has few calls");
        Path directory = Files.createDirectories(Path.of("build", "readme"));
        if (compile(directory, code.append("}}\n").toString())) {
            URL[] places = {directory.toUri().toURL()};
            try (URLClassLoader loader = new URLClassLoader(places, ReadmeTest.class.getClassLoader())) {
                loader.loadClass("Example").getMethod("run").invoke(null);
            }
        }
    }

    private static boolean compile(Path directory, String code) throws IOException {
        Path file = directory.resolve("Example.java");
        Files.writeString(file, code);
        JavaCompiler compiler = ToolProvider.getSystemJavaCompiler();
        boolean compiles = compiler != null && compiler.run(null, null, null, "--release", "17",
            "-cp", System.getProperty("java.class.path"), "-d", directory.toString(), file.toString()) == 0;
        ask(compiles, "the example compiles");
        return compiles;
    }
}
