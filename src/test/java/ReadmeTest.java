import java.io.IOException;
import java.lang.reflect.Method;
import java.lang.reflect.Modifier;
import java.net.URL;
import java.net.URLClassLoader;
import java.nio.file.Files;
import java.nio.file.Path;
import java.util.Comparator;
import java.util.List;
import java.util.regex.Matcher;
import java.util.regex.Pattern;
import java.util.stream.Stream;

/** The examples of README.md, compiled and run: each call must answer the number that stands beside it. */
public final class ReadmeTest {
    private static final Path README = Path.of("README.md");
    private static final Pattern BLOCK = Pattern.compile("```java\n(.*?)```", Pattern.DOTALL);
    private static final Pattern CALL = Pattern.compile("(x\\.\\w+\\([^\"]*\\)); +// (-?\\d+)\\b.*");
    private static final String MADE = "ReadmeExamples";

    private static final List<String> HEAD = List.of(
        "import java.nio.ByteBuffer;",
        "import java.nio.charset.StandardCharsets;",
        "import java.util.Arrays;",
        "public final class " + MADE + " {",
        "public static int wrong = 0;",
        "static void due(int line, String call, int got, int want) {",
        "if (got != want) {",
        "wrong++;",
        "System.out.println(\"README, line \" + line + \": \" + call + \" answered \" + got + \", not \" + want);",
        "}",
        "}");

    private static int wrong = 0;

    private static void complain(String what) {
        wrong++;
        System.out.println(what);
    }

    /** A class with a method for each example; blocks that begin with "static" are methods themselves. */
    private static String program(String readme) {
        StringBuilder made = new StringBuilder(String.join("\n", HEAD)).append('\n');
        StringBuilder main = new StringBuilder("public static void all() {\n");
        Matcher block = BLOCK.matcher(readme);
        while (block.find()) {
            String code = block.group(1);
            int line = (int) readme.substring(0, block.start(1)).lines().count();
            if (code.startsWith("static ")) {
                made.append(code);
                continue;
            }
            main.append("example").append(line).append("();\n");
            made.append("static void example").append(line).append("() {\n");
            for (String told : code.split("\n")) {
                line++;
                made.append(checked(told, line)).append('\n');
            }
            made.append("}\n");
        }
        return made.append(main).append("}\n}\n").toString();
    }

    private static String checked(String told, int line) {
        Matcher call = CALL.matcher(told);
        if (call.matches()) {
            String what = call.group(1);
            return "due(" + line + ", \"" + what + "\", " + what + ", " + call.group(2) + ");";
        }
        if (told.startsWith("x.")) {
            complain("README, line " + line + ": no answer stands beside " + told);
        }
        return told;
    }

    private static void run(String program, Path dir) throws Exception {
        Path source = dir.resolve(MADE + ".java");
        Files.writeString(source, program);
        String classes = System.getProperty("java.class.path");
        List<String> javac = List.of("javac", "-cp", classes, "-d", dir.toString(), source.toString());
        if (new ProcessBuilder(javac).inheritIO().start().waitFor() != 0) {
            complain("README's examples do not compile");
            return;
        }
        try (URLClassLoader loader = new URLClassLoader(new URL[] {dir.toUri().toURL()})) {
            Class<?> made = loader.loadClass(MADE);
            made.getMethod("all").invoke(null);
            wrong += made.getField("wrong").getInt(null);
        }
    }

    private static void everyCallIsShown(String program) {
        for (Method m : BellTable.class.getDeclaredMethods()) {
            if (Modifier.isPublic(m.getModifiers()) && !program.contains("x." + m.getName() + "(")) {
                complain("README does not show " + m.getName());
            }
        }
    }

    private static void remove(Path dir) throws IOException {
        try (Stream<Path> all = Files.walk(dir)) {
            for (Path p : all.sorted(Comparator.reverseOrder()).toList()) {
                Files.delete(p);
            }
        }
    }

    public static void main(String[] args) throws Exception {
        String program = program(Files.readString(README));
        everyCallIsShown(program);
        Path dir = Files.createTempDirectory("readme");
        try {
            run(program, dir);
        } finally {
            remove(dir);
        }
        System.out.println(wrong == 0 ? "all examples are as README says" : wrong + " are not as README says");
        if (wrong != 0) {
            System.exit(1);
        }
    }
}
