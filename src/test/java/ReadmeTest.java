import java.io.File;
import java.lang.reflect.Method;
import java.lang.reflect.Modifier;
import java.net.URL;
import java.net.URLClassLoader;
import java.nio.file.Files;
import java.nio.file.Path;
import java.util.ArrayList;
import java.util.List;
import java.util.regex.Matcher;
import java.util.regex.Pattern;

/** Compiles and runs the program that README.md tells, and holds its answers against those that stand there. */
public final class ReadmeTest {
    private static final Pattern BLOCK = Pattern.compile("(?s)```java\n(.*?)```");
    /** A call with the answer behind it: a number or a constant. */
    private static final Pattern ANSWERED =
            Pattern.compile("(?:int (\\w+) = )?(book\\.(\\w+)\\(.*\\));\\s+// (-?\\d+|[A-Z]+)(?:: .*)?");

    private static final StringBuilder helpers = new StringBuilder();
    private static final StringBuilder statements = new StringBuilder();
    private static final List<String> calls = new ArrayList<>();
    private static final List<Long> wanted = new ArrayList<>();
    private static final List<String> used = new ArrayList<>();

    public static void main(String[] args) throws Exception {
        String readme = Files.readString(Path.of("README.md"));
        Matcher block = BLOCK.matcher(readme);
        while (block.find()) {
            take(block.group(1));
        }
        List<?> got = answers();
        hold("as many answers as calls", got.size() == wanted.size());
        for (int k = 0; k < Math.min(got.size(), wanted.size()); k++) {
            Due.due("README.md: " + calls.get(k), (Long) got.get(k), wanted.get(k));
        }
        says(readme);
        Due.finish();
    }

    private static void hold(String what, boolean holds) {
        Due.due(what, holds ? 1 : 0, 1);
    }

    private static void take(String block) throws Exception {
        if (block.startsWith("static ")) {
            helpers.append(block);
            return;
        }
        for (String line : block.split("\n")) {
            Matcher call = ANSWERED.matcher(line);
            if (call.matches()) {
                takeCall(line, call);
            } else {
                hold("README.md: a line with its answer: " + line, line.startsWith("feedText(") || line.contains("new QuoitBook()"));
                statements.append(line).append('\n');
            }
        }
    }

    private static void takeCall(String line, Matcher call) throws Exception {
        String name = call.group(1);
        String answer = call.group(4);
        boolean number = !Character.isUpperCase(answer.charAt(0));
        if (name != null) {
            statements.append(line).append('\n');
        }
        statements.append("got.add((long) ").append(name == null ? call.group(2) : name).append(");\n");
        calls.add(call.group(2));
        used.add(call.group(3));
        wanted.add(number ? Long.parseLong(answer) : QuoitBook.class.getField(answer).getInt(null));
    }

    private static List<?> answers() throws Exception {
        String source = "public final class ReadmeProgram {\n" + helpers
                + "public static java.util.List<Long> run() {\njava.util.List<Long> got = new java.util.ArrayList<>();\n"
                + statements + "return got;\n}\n}\n";
        Path out = Files.createTempDirectory("readme");
        Path file = Files.writeString(out.resolve("ReadmeProgram.java"), source);
        // By the same javac that .ci/run uses.
        Process javac = new ProcessBuilder("javac", "-d", out.toString(), "-cp", System.getProperty("java.class.path"),
                file.toString()).inheritIO().start();
        boolean compiled = javac.waitFor() == 0;
        hold("README.md: its program compiles", compiled);
        try (URLClassLoader loader = new URLClassLoader(new URL[] {out.toUri().toURL()})) {
            return compiled ? (List<?>) loader.loadClass("ReadmeProgram").getMethod("run").invoke(null) : List.of();
        } finally {
            for (File made : out.toFile().listFiles()) {
                made.delete();
            }
            Files.delete(out);
        }
    }

    /** What a reader must find there, beside the calls. */
    private static void says(String readme) {
        for (Method m : QuoitBook.class.getDeclaredMethods()) {
            if (Modifier.isPublic(m.getModifiers())) {
                boolean shown = used.contains(m.getName()) || helpers.indexOf("book." + m.getName() + "(") >= 0;
                hold("README.md shows a call of " + m.getName(), shown);
            }
        }
        for (String refusal : List.of("UNKNOWN", "OUTSIDE", "NOT", "FULL", "LARGE")) {
            hold("README.md tells of " + refusal, readme.contains("| `" + refusal + "` |"));
        }
        hold("README.md: at most 512 calls", readme.contains("at most 512 calls"));
        hold("README.md: how the tests are run", readme.contains(".ci/run"));
    }
}
