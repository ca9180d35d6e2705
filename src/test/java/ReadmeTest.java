import java.io.IOException;
import java.lang.reflect.Method;
import java.net.URL;
import java.net.URLClassLoader;
import java.nio.file.Files;
import java.nio.file.Path;
import java.util.ArrayList;
import java.util.List;
import java.util.regex.Matcher;
import java.util.regex.Pattern;
import java.util.stream.Stream;
import javax.tools.JavaCompiler;
import javax.tools.ToolProvider;

/** The example in README.md answers as it tells: a call with a number behind it, as in {@code x.row(q, 0); // 0}. */
final class ReadmeTest {
    private static final Pattern EXAMPLE = Pattern.compile("```java\n(.*?)```", Pattern.DOTALL);
    private static final Pattern ANSWERED = Pattern.compile("(x\\..*); *// (-?\\d+)(:.*)?");

    public static void main(String[] args) throws IOException, ReflectiveOperationException {
        Due due = new Due("ReadmeTest");
        Matcher example = EXAMPLE.matcher(Files.readString(Path.of("README.md")));
        due.due("there is an example", example.find());
        StringBuilder told = new StringBuilder();
        StringBuilder program = new StringBuilder("public final class Example { public static void go(java.util.List<Long> got) {\n");
        for (String line : example.group(1).split("\n")) {
            Matcher answered = ANSWERED.matcher(line);
            if (answered.matches()) {
                program.append("got.add((long) ").append(answered.group(1)).append(");\n");
                told.append(answered.group(1)).append('=').append(answered.group(2)).append('\n');
            } else {
                program.append(line).append('\n');
            }
        }
        List<Long> got = answers(program.append("}}\n").toString());
        String[] calls = told.toString().split("\n");
        due.due("calls with an answer", got.size(), calls.length);
        for (int i = 0; i < calls.length; i++) {
            int sign = calls[i].lastIndexOf('=');
            due.due(calls[i].substring(0, sign), got.get(i), Long.parseLong(calls[i].substring(sign + 1)));
        }
        due.end();
    }

    private static List<Long> answers(String program) throws IOException, ReflectiveOperationException {
        Path dir = Files.createTempDirectory("readme");
        try {
            Path file = Files.writeString(dir.resolve("Example.java"), program);
            JavaCompiler compiler = ToolProvider.getSystemJavaCompiler();
            compiler.run(null, null, null, "-cp", System.getProperty("java.class.path"), "-d", dir.toString(), file.toString());
            try (URLClassLoader loader = new URLClassLoader(new URL[] {dir.toUri().toURL()})) {
                List<Long> got = new ArrayList<>();
                Method go = loader.loadClass("Example").getMethod("go", List.class);
                go.invoke(null, got);
                return got;
            }
        } finally {
            try (Stream<Path> files = Files.list(dir)) {
                for (Path file : files.toList()) {
                    Files.delete(file);
                }
            }
            Files.delete(dir);
        }
    }
}
