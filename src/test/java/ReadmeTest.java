import java.net.URL;
import java.net.URLClassLoader;
import java.nio.file.Files;
import java.nio.file.Path;
import java.util.ArrayList;
import java.util.Comparator;
import java.util.List;
import java.util.regex.Matcher;
import java.util.regex.Pattern;
import java.util.stream.Stream;
import javax.tools.ToolProvider;

/** What README.md tells of answers: each call of its Java is asked. Run from the project's folder. */
public final class ReadmeTest {
    private static final String BEGIN = "CatchBars x = new CatchBars();";
    private static final Pattern CALL = Pattern.compile("(x\\.\\w+\\(.*\\)); +// (-?\\d+)\\b.*");
    private static final Due due = new Due("ReadmeTest");

    public static void main(String[] args) throws Exception {
        List<String> calls = new ArrayList<>();
        List<Long> wanted = new ArrayList<>();
        String body = read(Files.readAllLines(Path.of("README.md")), calls, wanted);
        Path folder = Files.createTempDirectory("readme");
        try {
            long[] answers = run(folder, body, calls.size());
            for (int i = 0; i < answers.length; i++) {
                due.due(calls.get(i), answers[i], wanted.get(i));
            }
        } finally {
            remove(folder);
        }
        methodsAreNamed(Files.readString(Path.of("README.md")));
        due.end();
    }

    /** The calls of all its Java as lines that fill a row; each piece of it stands for itself. */
    private static String read(List<String> lines, List<String> calls, List<Long> wanted) {
        StringBuilder body = new StringBuilder();
        boolean inJava = false;
        for (String line : lines) {
            Matcher call = CALL.matcher(line);
            if (line.startsWith("```")) {
                body.append(inJava ? "}\n" : "{\n");
                inJava = !inJava;
            } else if (inJava && call.matches()) {
                body.append("answers[").append(calls.size()).append("] = ").append(call.group(1)).append(";\n");
                calls.add(call.group(1));
                wanted.add(Long.parseLong(call.group(2)));
            } else if (inJava) {
                due.due("a line of README.md is a call with its answer: " + line, line.equals(BEGIN) ? 1 : 0, 1);
                body.append(BEGIN).append('\n');
            }
        }
        due.due("README.md tells of calls", calls.size() > 20 ? 1 : 0, 1);
        return body.toString();
    }

    private static long[] run(Path folder, String body, int many) throws Exception {
        Path source = folder.resolve("Readme.java");
        Files.writeString(source, "public final class Readme { public static long[] answers() {\n"
            + "long[] answers = new long[" + many + "];\n" + body + "return answers; } }\n");
        int failed = ToolProvider.getSystemJavaCompiler().run(null, null, null, "-proc:none",
            "-cp", System.getProperty("java.class.path"), "-d", folder.toString(), source.toString());
        due.due("the Java of README.md compiles", failed, 0);
        if (failed != 0) {
            return new long[0];
        }
        try (URLClassLoader loader = new URLClassLoader(new URL[] {folder.toUri().toURL()})) {
            return (long[]) loader.loadClass("Readme").getMethod("answers").invoke(null);
        }
    }

    private static void methodsAreNamed(String text) {
        for (java.lang.reflect.Method m : CatchBars.class.getDeclaredMethods()) {
            if (java.lang.reflect.Modifier.isPublic(m.getModifiers())) {
                boolean named = Pattern.compile("[|,`] ?" + m.getName() + "( \\||,|`)").matcher(text).find();
                due.due("README.md names " + m.getName(), named ? 1 : 0, 1);
            }
        }
    }

    private static void remove(Path folder) throws Exception {
        try (Stream<Path> files = Files.walk(folder)) {
            for (Path file : files.sorted(Comparator.reverseOrder()).toList()) {
                Files.delete(file);
            }
        }
    }
}
