import java.io.IOException;
import java.lang.reflect.Method;
import java.lang.reflect.Modifier;
import java.nio.file.Files;
import java.nio.file.Path;
import java.util.Set;
import java.util.TreeSet;
import java.util.regex.Matcher;
import java.util.regex.Pattern;

/** README.md tells one run of calls with what each answers: it is so, and no method is left out. */
public final class ReadmeTest {
    private static final Pattern CALL = Pattern.compile("x\\.(\\w+)\\(([^)]*)\\); +// (-?\\d+)(: .*)?");
    private static int wrong = 0;

    private static void need(boolean holds, String what) {
        if (!holds) {
            wrong++;
            System.out.println(what);
        }
    }

    private static Method method(String name) {
        for (Method method : FinitePlanes.class.getDeclaredMethods()) {
            if (Modifier.isPublic(method.getModifiers()) && method.getName().equals(name)) {
                return method;
            }
        }
        return null;
    }

    private static Object[] arguments(String told) {
        if (told.isEmpty()) {
            return new Object[0];
        }
        String[] words = told.split(", ");
        Object[] made = new Object[words.length];
        for (int k = 0; k < words.length; k++) {
            boolean yesOrNo = words[k].equals("true") || words[k].equals("false");
            made[k] = yesOrNo ? (Object) Boolean.valueOf(words[k]) : (Object) Integer.valueOf(words[k]);
        }
        return made;
    }

    private static int run(String text, Set<String> used) throws ReflectiveOperationException {
        FinitePlanes x = new FinitePlanes();
        int calls = 0;
        for (String line : text.split("\n")) {
            if (line.startsWith("x.")) {
                Matcher matcher = CALL.matcher(line);
                Method method = matcher.matches() ? method(matcher.group(1)) : null;
                need(method != null, "no call with its answer: " + line);
                if (method != null) {
                    Object got = method.invoke(x, arguments(matcher.group(2)));
                    need(got.equals(Integer.valueOf(matcher.group(3))), "answered " + got + ": " + line);
                    used.add(method.getName());
                    calls++;
                }
            }
        }
        return calls;
    }

    public static void main(String[] args) throws IOException, ReflectiveOperationException {
        String text = Files.readString(Path.of("README.md"));
        Set<String> used = new TreeSet<>();
        int calls = run(text, used);
        need(calls <= 512, "more than 512 calls on one object");
        for (Method method : FinitePlanes.class.getDeclaredMethods()) {
            if (Modifier.isPublic(method.getModifiers())) {
                need(used.contains(method.getName()), "README.md leaves out " + method.getName());
            }
        }
        for (Path test : tests()) {
            String name = test.getFileName().toString().replace(".java", "");
            need(text.contains("- `" + name + "`: "), "README.md leaves out " + name);
        }
        need(text.contains(".ci/run"), "README.md leaves out .ci/run");
        System.out.println(calls + " calls of README.md, " + wrong + " things are not as due");
        if (wrong != 0) {
            System.exit(1);
        }
    }

    private static Iterable<Path> tests() throws IOException {
        try (var list = Files.list(Path.of("src/test/java"))) {
            return list.sorted().toList();
        }
    }
}
