import java.io.IOException;
import java.lang.reflect.Field;
import java.lang.reflect.Method;
import java.lang.reflect.Modifier;
import java.net.URL;
import java.net.URLClassLoader;
import java.nio.file.Files;
import java.nio.file.Path;
import java.util.regex.Matcher;
import java.util.regex.Pattern;
import javax.tools.JavaCompiler;
import javax.tools.ToolProvider;

/** README.md names all of the face, and the calls of its example answer what the words beside them say. */
public final class ReadmeTest extends Check {
    private static final Path README = Path.of("README.md");
    private static final Pattern EXAMPLE = Pattern.compile("```java\n(.*?)```", Pattern.DOTALL);
    private static final Pattern ASKED = Pattern.compile("(maker\\..*); +// (-?\\d+): .*");

    private static void names(String text) {
        for (Method method : MachineMaker.class.getDeclaredMethods()) {
            if (Modifier.isPublic(method.getModifiers())) {
                dueTrue("not in README.md's table: " + method, text.contains("\n| `" + method.getName() + "("));
                dueTrue("not in README.md's example: " + method, text.contains("maker." + method.getName() + "("));
            }
        }
        for (Field field : MachineMaker.class.getDeclaredFields()) {
            if (Modifier.isPublic(field.getModifiers())) {
                dueTrue("not in README.md: " + field, text.contains("`MachineMaker." + field.getName() + "` is "));
            }
        }
    }

    /** The example as a class whose run() answers the calls that went wrong, a line each. */
    private static String asClass(String example) {
        StringBuilder source = new StringBuilder("""
            public final class Example {
                static void due(StringBuilder wrong, String call, int got, int want) {
                    if (got != want) {
                        wrong.append(call + " answers " + got + ", beside it stands " + want + ". ");
                    }
                }
                public static String run() {
                    StringBuilder wrong = new StringBuilder();
            """);
        for (String line : example.split("\n")) {
            Matcher asked = ASKED.matcher(line);
            if (asked.matches()) {
                String call = asked.group(1);
                source.append("due(wrong, \"" + call + "\", " + call + ", " + asked.group(2) + ");\n");
            } else {
                dueTrue("README.md's example says no answer: " + line, !line.startsWith("maker."));
                source.append(line).append('\n');
            }
        }
        return source.append("return wrong.toString();\n}\n}\n").toString();
    }

    private static String wrongAnswers(JavaCompiler compiler, String example)
            throws IOException, ReflectiveOperationException {
        Path place = Files.createTempDirectory("readme");
        Path file = place.resolve("Example.java");
        try {
            Files.writeString(file, asClass(example));
            int refused = compiler.run(null, null, null, "-d", place.toString(),
                "-cp", System.getProperty("java.class.path"), file.toString());
            if (refused != 0) {
                return "it does not compile";
            }
            try (URLClassLoader loader = new URLClassLoader(new URL[] {place.toUri().toURL()})) {
                return (String) loader.loadClass("Example").getMethod("run").invoke(null);
            }
        } finally {
            Files.deleteIfExists(place.resolve("Example.class"));
            Files.deleteIfExists(file);
            Files.deleteIfExists(place);
        }
    }

    private static void example(String text) throws IOException, ReflectiveOperationException {
        Matcher found = EXAMPLE.matcher(text);
        boolean isThere = found.find();
        dueTrue("README.md has no example", isThere);
        JavaCompiler compiler = ToolProvider.getSystemJavaCompiler();
        if (compiler == null) {
            System.out.println("the example can't be compiled here");
        } else if (isThere) {
            String answers = wrongAnswers(compiler, found.group(1));
            dueTrue("README.md's example: " + answers, answers.isEmpty());
        }
    }

    public static void main(String[] args) throws IOException, ReflectiveOperationException {
        String text = Files.readString(README);
        names(text);
        example(text);
        finish("README.md is as the class is");
    }
}
