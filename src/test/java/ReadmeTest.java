import java.lang.reflect.Method;
import java.lang.reflect.Modifier;
import java.net.URL;
import java.net.URLClassLoader;
import java.nio.file.Files;
import java.nio.file.Path;
import java.util.ArrayList;
import java.util.List;
import java.util.regex.Matcher;
import java.util.regex.Pattern;
import javax.tools.ToolProvider;

/** The examples of README.md are compiled and run; a number behind "//" is what that line is due to answer. */
public final class ReadmeTest {
    private static final Pattern BLOCK = Pattern.compile("(?s)```java\n(.*?)```");
    private static final Pattern LINE = Pattern.compile("(?:\\w+ (\\w+) = )?(.*);\\s*// (-?\\d+)\\b.*");
    private static final String CLASS = "ReadmeExamples";
    private static final int LEAST_DUE = 20;

    private final Checks c = new Checks();
    private final List<String> lines = new ArrayList<>();
    private final List<Long> due = new ArrayList<>();

    public static void main(String[] args) throws Exception {
        new ReadmeTest().test(Files.readString(Path.of("README.md")));
    }

    private void test(String readme) throws Exception {
        for (Method method : HandleModels.class.getDeclaredMethods()) {
            if (Modifier.isPublic(method.getModifiers())) {
                c.due("README.md names " + method.getName(), readme.contains("`" + method.getName() + "(") ? 1 : 0, 1);
            }
        }
        List<?> answers = answersOf(program(readme));
        c.due("enough lines with an answer", due.size() >= LEAST_DUE ? 1 : 0, 1);
        c.due("as many answers as lines", answers.size(), due.size());
        for (int k = 0; k < Math.min(answers.size(), due.size()); k++) {
            c.due(lines.get(k), (Long) answers.get(k), due.get(k));
        }
        c.end();
    }

    private String program(String readme) {
        StringBuilder all = new StringBuilder("public final class " + CLASS + " {\npublic static java.util.List<Long> answers() {\n");
        all.append("var answers = new java.util.ArrayList<Long>();\n");
        Matcher block = BLOCK.matcher(readme);
        while (block.find()) {
            for (String line : block.group(1).split("\n")) {
                add(all, line);
            }
        }
        return all.append("return answers;\n}\n}\n").toString();
    }

    private void add(StringBuilder all, String line) {
        Matcher m = LINE.matcher(line);
        if (!m.matches()) {
            all.append(line).append('\n');
            return;
        }
        String name = m.group(1);
        all.append(name == null ? "" : line).append("\nanswers.add((long) ").append(name == null ? m.group(2) : name).append(");\n");
        lines.add(m.group(2));
        due.add(Long.valueOf(m.group(3)));
    }

    private List<?> answersOf(String program) throws Exception {
        Path folder = Files.createTempDirectory("readme");
        Path source = Files.writeString(folder.resolve(CLASS + ".java"), program);
        Path classes = Path.of(HandleModels.class.getProtectionDomain().getCodeSource().getLocation().toURI());
        int code = ToolProvider.getSystemJavaCompiler().run(null, null, null,
            "-cp", classes.toString(), "-d", folder.toString(), source.toString());
        c.due("the examples compile, exit code", code, 0);
        try (URLClassLoader loader = new URLClassLoader(new URL[] {folder.toUri().toURL()})) {
            return code == 0 ? (List<?>) loader.loadClass(CLASS).getMethod("answers").invoke(null) : List.of();
        } finally {
            Files.deleteIfExists(folder.resolve(CLASS + ".class"));
            Files.delete(source);
            Files.delete(folder);
        }
    }
}
