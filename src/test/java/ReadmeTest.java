import java.io.IOException;
import java.lang.reflect.Method;
import java.lang.reflect.Modifier;
import java.nio.file.Files;
import java.nio.file.Path;
import java.util.Comparator;
import java.util.List;
import java.util.regex.Matcher;
import java.util.regex.Pattern;
import java.util.stream.Stream;
import javax.tools.JavaCompiler;
import javax.tools.ToolProvider;

/** README.md: its examples compile and answer as it says, it names every call and every test. */
public final class ReadmeTest {
    private static final Pattern BLOCK = Pattern.compile("(?s)```java\n(.*?)```");
    private static final Pattern ANSWER = Pattern.compile("(x\\..*);\\s*// (NONE|true|false|-?\\d+)\\b.*");

    public static void main(String[] args) throws IOException, ReflectiveOperationException {
        String page = Files.readString(Path.of("README.md"));
        examples(page);
        calls(page);
        tests(page);
        Due.finish();
    }

    private static void examples(String page) throws IOException, ReflectiveOperationException {
        StringBuilder members = new StringBuilder();
        StringBuilder statements = new StringBuilder();
        Matcher block = BLOCK.matcher(page);
        int blocks = 0;
        while (block.find()) {
            boolean member = block.group(1).startsWith("static ");
            (member ? members : statements).append(member ? block.group(1) : asked(block.group(1)));
            blocks++;
        }
        Due.yes("there are examples", blocks > 1 && statements.indexOf("is(") >= 0);
        run("public final class ReadmeExample {\n" + members + "public static void main(String[] args) {\n" + statements + "}\n"
            + "static void is(String call, long got, long want) { if (got != want) { throw new IllegalStateException("
            + "call + \" answered \" + got + \", due is \" + want); } }\n"
            + "static void is(String call, boolean got, boolean want) { is(call, got ? 1L : 0L, want ? 1L : 0L); }\n}\n");
    }

    /** Each line with an answer behind it asks for that answer. */
    private static String asked(String block) {
        StringBuilder text = new StringBuilder();
        for (String line : block.split("\n")) {
            Matcher m = ANSWER.matcher(line);
            if (m.matches()) {
                String quoted = m.group(1).replace("\\", "\\\\").replace("\"", "\\\"");
                String want = m.group(2).equals("NONE") ? "MedalBoard.NONE" : m.group(2);
                text.append("is(\"").append(quoted).append("\", ").append(m.group(1)).append(", ").append(want).append(");\n");
            } else {
                Due.yes("an example's line without an answer: " + line, line.matches(".*x = new MedalBoard\\(\\);"));
                text.append(line).append('\n');
            }
        }
        return text.toString();
    }

    private static void run(String source) throws IOException, ReflectiveOperationException {
        Path work = Files.createTempDirectory("readme");
        try {
            Path file = Files.writeString(work.resolve("ReadmeExample.java"), source);
            JavaCompiler compiler = ToolProvider.getSystemJavaCompiler();
            String path = System.getProperty("java.class.path");
            int failed = compiler.run(null, null, null, "-cp", path, "-d", work.toString(), file.toString());
            Due.is("the examples compile", failed, 0);
            if (failed == 0) {
                Process p = new ProcessBuilder(Path.of(System.getProperty("java.home"), "bin", "java").toString(), "-cp",
                    path + java.io.File.pathSeparator + work, "ReadmeExample").inheritIO().start();
                Due.is("the examples answer as they say", p.waitFor(), 0);
            }
        } catch (InterruptedException e) {
            Due.yes("the examples end", false);
        } finally {
            remove(work);
        }
    }

    private static void remove(Path work) throws IOException {
        try (Stream<Path> all = Files.walk(work)) {
            for (Path p : (Iterable<Path>) all.sorted(Comparator.reverseOrder())::iterator) {
                Files.delete(p);
            }
        }
    }

    private static void calls(String page) {
        for (Method m : MedalBoard.class.getDeclaredMethods()) {
            if (Modifier.isPublic(m.getModifiers())) {
                Due.yes("README.md names " + m.getName(), page.contains("`" + m.getName() + "`"));
            }
        }
    }

    private static void tests(String page) throws IOException {
        try (Stream<Path> files = Files.list(Path.of("src/test/java"))) {
            List<String> names = files.map(p -> p.getFileName().toString().replace(".java", "")).toList();
            for (String name : names) {
                Due.yes("README.md names " + name, page.contains("`" + name + "`"));
            }
        }
    }
}
