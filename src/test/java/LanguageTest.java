import java.lang.reflect.Constructor;
import java.lang.reflect.Method;
import java.lang.reflect.Modifier;
import java.nio.file.Files;
import java.nio.file.Path;
import java.util.ArrayList;
import java.util.Arrays;
import java.util.List;
import java.util.TreeSet;
import java.util.regex.Matcher;
import java.util.regex.Pattern;

/** What LANGUAGE.md rules out, as far as the class's text and face show it. */
public final class LanguageTest {
    private static final List<String> FACE = List.of(
        "int about(int, int)", "int clear()", "int item(int, int)", "int linked(int)",
        "int other(int, int, int, int, int, int)", "int plain(int, int, int)", "long result()", "int resultKind()",
        "int row(int)", "int run(int, boolean)", "int runSite(int, boolean)", "int set(int, int, int)",
        "int site(int, int)", "int told(int)", "int turn(int, int)", "int value(int, int, long)");
    private static final List<String> BANNED = List.of("throw", "try", "catch", "finally", "synchronized", "assert",
        "import", "package", "equals", "hashCode", "toString", "Object", "System.exit", "Exact\\(", "->", "::", "var",
        "double", "float", "@");
    private static int wrong = 0;

    public static void main(String[] args) throws Exception {
        face();
        inside();
        Path file = Path.of(args.length > 0 ? args[0] : "src/main/java/HandleModels.java");
        text(Files.readString(file));
        System.out.println(wrong == 0 ? "the language is kept to" : wrong + " faults of language");
        if (wrong != 0) {
            System.exit(1);
        }
    }

    private static void need(boolean so, String what) {
        if (!so) {
            wrong++;
            System.out.println(what);
        }
    }

    private static void face() throws Exception {
        Class<?> c = HandleModels.class;
        need(Modifier.isPublic(c.getModifiers()) && Modifier.isFinal(c.getModifiers()), "public and final");
        TreeSet<String> seen = new TreeSet<>();
        TreeSet<String> names = new TreeSet<>();
        for (Method m : c.getDeclaredMethods()) {
            if (Modifier.isPublic(m.getModifiers())) {
                String types = Arrays.stream(m.getParameterTypes()).map(Class::getName).reduce((a, b) -> a + ", " + b).orElse("");
                seen.add(m.getReturnType() + " " + m.getName() + "(" + types + ")");
                names.add(m.getName());
            }
        }
        need(seen.equals(new TreeSet<>(FACE)), "the face is " + seen);
        for (Class<?> each : all()) {
            for (Method m : each.getDeclaredMethods()) {
                boolean ofFace = each == c && Modifier.isPublic(m.getModifiers());
                need(ofFace || Modifier.isPrivate(m.getModifiers()) || each != c, "visible: " + m);
                need(ofFace || !names.contains(m.getName()), "bears a public name: " + m);
            }
        }
        Constructor<?>[] made = c.getDeclaredConstructors();
        need(made.length == 1 && Modifier.isPublic(made[0].getModifiers()) && made[0].getParameterCount() == 0, "one constructor");
        TreeSet<String> constants = new TreeSet<>();
        for (var f : c.getDeclaredFields()) {
            if (!Modifier.isPrivate(f.getModifiers())) {
                constants.add(f.getName());
                need(Modifier.isStatic(f.getModifiers()) && Modifier.isFinal(f.getModifiers()), "not a constant: " + f);
            }
        }
        need(constants.equals(new TreeSet<>(List.of("NONE", "UNKNOWN", "OUTSIDE", "STATE", "FULL"))), "constants " + constants);
    }

    private static List<Class<?>> all() {
        List<Class<?>> all = new ArrayList<>(List.of(HandleModels.class));
        all.addAll(Arrays.asList(HandleModels.class.getDeclaredClasses()));
        return all;
    }

    private static void inside() {
        need(all().size() <= 12, "classes: " + all().size());
        for (Class<?> each : all()) {
            int fields = 0;
            for (var f : each.getDeclaredFields()) {
                boolean fixed = Modifier.isStatic(f.getModifiers());
                need(!fixed || Modifier.isFinal(f.getModifiers()), "static state: " + f);
                fields += fixed ? 0 : 1;
            }
            need(fields <= 20, each + " has " + fields + " fields");
            need(each == HandleModels.class || Modifier.isStatic(each.getModifiers()), "not static: " + each);
            for (Method m : each.getDeclaredMethods()) {
                need(m.getParameterCount() <= 7, "parameters: " + m);
            }
            for (Constructor<?> made : each.getDeclaredConstructors()) {
                need(made.getParameterCount() <= 7, "parameters: " + made);
            }
        }
    }

    private static void text(String whole) {
        String code = whole.replaceAll("(?s)/\\*.*?\\*/", "").replaceAll("//.*", "");
        for (String word : BANNED) {
            String edge = Character.isLetter(word.charAt(0)) ? "\\b" : "";
            Matcher m = Pattern.compile(edge + word + (edge.isEmpty() || word.endsWith("(") ? "" : "\\b")).matcher(code);
            need(!m.find(), "banned: " + word);
        }
        need(whole.chars().allMatch(ch -> ch < 128), "a character above 127");
        methods(whole.split("\n"));
    }

    /** A method begins at a line that ends in ") {" and is no statement; it ends at a brace of the same depth. */
    private static void methods(String[] lines) {
        for (int k = 0; k < lines.length; k++) {
            String line = lines[k];
            boolean begins = line.matches(" {4,8}\\w.*\\) \\{") && !line.matches("\\s*(if|for|while|switch|else)\\b.*");
            if (begins) {
                String end = line.replaceAll("\\S.*", "") + "}";
                int last = k;
                while (last < lines.length - 1 && !lines[last].equals(end)) {
                    last++;
                }
                need(last - k <= 60, "long: " + line.trim());
            }
        }
    }
}
