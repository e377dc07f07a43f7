import java.io.File;
import java.lang.reflect.Method;
import java.lang.reflect.Modifier;
import java.net.URL;
import java.net.URLClassLoader;
import java.nio.file.Files;
import java.nio.file.Path;
import java.util.ArrayList;
import java.util.List;
import java.util.regex.Matcher;
import java.util.regex.Pattern;
import javax.tools.JavaCompiler;
import javax.tools.ToolProvider;

/** README.md: its Java compiles as it stands there, and each call answers what the page says. */
public final class ReadmeTest {
    private static final Pattern CALL =
        Pattern.compile("(x\\.\\w+\\(.*\\)); +// (-?\\d+|NONE|BAD|STATE|FULL)(:.*)?");

    private final List<String> calls = new ArrayList<>();
    private final List<Integer> answers = new ArrayList<>();
    private final StringBuilder body = new StringBuilder();

    private ReadmeTest() {
    }

    public static void main(String[] args) throws Exception {
        ReadmeTest test = new ReadmeTest();
        test.take(Files.readAllLines(Path.of("README.md")));
        test.play();
        test.showsTheWholeFace();
        namesEachTest();
        Due.end();
    }

    private void take(List<String> lines) {
        boolean java = false;
        for (String line : lines) {
            if (line.startsWith("```")) {
                java = line.equals("```java");
            } else if (java) {
                takeLine(line);
            }
        }
        Due.holds("README.md shows calls", !calls.isEmpty());
        Due.holds("as many calls as one object is used for", calls.size() <= 512);
    }

    private void takeLine(String line) {
        Matcher call = CALL.matcher(line);
        if (!call.matches()) {
            Due.holds("a call with its answer: " + line, !line.startsWith("x."));
            body.append(line).append('\n');
            return;
        }
        calls.add(call.group(1));
        answers.add(numberOf(call.group(2)));
        body.append("all.add(").append(call.group(1)).append(");\n");
    }

    private static int numberOf(String answer) {
        switch (answer) {
            case "NONE": return Due.NONE;
            case "BAD": return Due.BAD;
            case "STATE": return Due.STATE;
            case "FULL": return Due.FULL;
            default: return Integer.parseInt(answer);
        }
    }

    private void play() throws Exception {
        List<?> got = answersOf(Files.createTempDirectory("readme"));
        Due.due("how many calls of README.md answered", got.size(), calls.size());
        for (int i = 0; i < calls.size() && i < got.size(); i++) {
            Due.due("README.md: " + calls.get(i), (Integer) got.get(i), answers.get(i));
        }
    }

    private List<?> answersOf(Path folder) throws Exception {
        Path source = folder.resolve("ReadmeCalls.java");
        Files.writeString(source, "public final class ReadmeCalls {\n"
            + "public static java.util.List<Integer> play() {\n"
            + "java.util.List<Integer> all = new java.util.ArrayList<>();\n"
            + body + "return all;\n}\n}\n");
        JavaCompiler compiler = ToolProvider.getSystemJavaCompiler();
        String path = System.getProperty("java.class.path");
        int result = compiler.run(null, null, null, "-cp", path, "-d", folder.toString(),
            source.toString());
        Due.due("compiling what README.md shows", result, 0);
        if (result != 0) {
            remove(folder);
            return List.of();
        }
        try (URLClassLoader loader = new URLClassLoader(new URL[] {folder.toUri().toURL()})) {
            return (List<?>) loader.loadClass("ReadmeCalls").getMethod("play").invoke(null);
        } finally {
            remove(folder);
        }
    }

    private static void remove(Path folder) throws Exception {
        for (File file : folder.toFile().listFiles()) {
            Files.delete(file.toPath());
        }
        Files.delete(folder);
    }

    private void showsTheWholeFace() {
        for (Method method : FenceYards.class.getDeclaredMethods()) {
            String start = "x." + method.getName() + "(";
            boolean shown = calls.stream().anyMatch(call -> call.startsWith(start));
            boolean open = Modifier.isPublic(method.getModifiers());
            Due.holds("README.md shows " + method.getName(), shown || !open);
        }
    }

    /** One name stands for all of Bounds..Test. */
    private static void namesEachTest() throws Exception {
        String page = Files.readString(Path.of("README.md"));
        for (File file : new File("src/test/java").listFiles()) {
            String name = file.getName().replace(".java", "").replaceFirst("^Bounds.*", "Bounds..Test");
            Due.holds("README.md names " + name, !name.endsWith("Test") || page.contains(name));
        }
    }
}
