import java.io.IOException;
import java.lang.management.ManagementFactory;
import java.lang.reflect.Constructor;
import java.lang.reflect.Field;
import java.lang.reflect.Method;
import java.lang.reflect.Modifier;
import java.nio.file.Files;
import java.nio.file.Path;
import java.util.Set;
import java.util.TreeSet;
import java.util.regex.Matcher;
import java.util.regex.Pattern;

/** The public face, and the rules of LANGUAGE.md that can be seen from the class and its text. */
public final class LanguageTest {
    private static final String[] FACE = {
        "int begin(int)", "int reckon(int,int,int)", "int triple(int,int)", "int number(int,int,int)",
        "int on(int,int)", "int join(int,int)", "int row(int,int)", "int put(int,boolean)",
        "int member(int)", "int count(int)", "int meets(int)", "int is(int)", "int greatest(int)",
        "int closure(int)", "int curve(int,int,int,int,int,int)", "int through(int)",
        "int entry(int,int)", "int determinant()", "int image(int)", "int order()", "int fixed()",
        "int invert()", "int move()", "int frame(int,int,int,int)", "int behind(int,int,int,int)",
        "int ratio(int,int,int,int)", "int table(int)", "int mark(int,int,boolean)", "int flaw()",
        "int told()",
    };
    private static final Set<String> CONSTANTS = Set.of("NONE", "BAD", "ZERO");
    private static final Pattern METHOD = Pattern.compile(
            "( {4}| {8})(?!if|for|switch|return|else)((public|private|static|final) )*[\\w\\[\\]]+ ?\\w*\\([^=;]*");
    private static final Pattern COUNTING = Pattern.compile(
            "int (\\w+) = [^;]+; (\\w+ && )?\\1 <=? [^;]+; \\1\\+\\+");
    private static int wrong = 0;

    private static void need(boolean holds, String what) {
        if (!holds) {
            wrong++;
            System.out.println(what);
        }
    }

    private static String signature(Method method) {
        StringBuilder text = new StringBuilder(method.getReturnType().getSimpleName());
        text.append(' ').append(method.getName()).append('(');
        String comma = "";
        for (Class<?> type : method.getParameterTypes()) {
            text.append(comma).append(type.getSimpleName());
            comma = ",";
        }
        return text.append(')').toString();
    }

    private static void face() {
        Class<FinitePlanes> type = FinitePlanes.class;
        need(Modifier.isFinal(type.getModifiers()) && Modifier.isPublic(type.getModifiers()),
                "the class is not public and final");
        Set<String> due = new TreeSet<>(Set.of(FACE));
        Set<String> names = new TreeSet<>();
        Set<String> found = new TreeSet<>();
        for (Method method : type.getDeclaredMethods()) {
            if (!Modifier.isPrivate(method.getModifiers())) {
                found.add(signature(method));
                names.add(method.getName());
                need(Modifier.isPublic(method.getModifiers()), "not public: " + method);
            }
        }
        need(found.equals(due), "the face is " + found + ", due is " + due);
        for (Constructor<?> made : type.getDeclaredConstructors()) {
            need(Modifier.isPublic(made.getModifiers()) && made.getParameterCount() == 0, "constructor: " + made);
        }
        for (Field field : type.getDeclaredFields()) {
            boolean open = !Modifier.isPrivate(field.getModifiers());
            need(open == CONSTANTS.contains(field.getName()), "field: " + field);
        }
        members(type, names);
        for (Class<?> inside : type.getDeclaredClasses()) {
            need(Modifier.isStatic(inside.getModifiers()), "not static: " + inside);
            members(inside, names);
        }
        need(type.getDeclaredClasses().length <= 12, "more than twelve classes");
    }

    private static void members(Class<?> type, Set<String> names) {
        int fields = 0;
        for (Field field : type.getDeclaredFields()) {
            boolean fixed = Modifier.isStatic(field.getModifiers());
            need(!fixed || Modifier.isFinal(field.getModifiers()), "static and not final: " + field);
            fields += fixed ? 0 : 1;
        }
        need(fields <= 20, "more than twenty fields: " + type);
        for (Method method : type.getDeclaredMethods()) {
            need(method.getParameterCount() <= 7, "more than seven parameters: " + method);
            need(Modifier.isPublic(method.getModifiers()) || !names.contains(method.getName()),
                    "bears the name of a public one: " + method);
        }
    }

    private static void text() throws IOException {
        String source = Files.readString(Path.of("src/main/java/FinitePlanes.java"));
        String code = source.replaceAll("(?s)/\\*.*?\\*/", " ").replaceAll("//[^\n]*", " ");
        String[] forbidden = {
            "\\b(throw|throws|try|catch|synchronized|assert|package|import|record|native|volatile)\\b",
            "->", "::", "\\bnew\\s+\\w+\\s*\\([^)]*\\)\\s*\\{", "\\bwhile\\b", "\\bstatic\\s*\\{", "Exact\\b",
            "\\bSystem\\b", "\\bThread\\b", "\\bRandom\\b",
        };
        for (String pattern : forbidden) {
            Matcher matcher = Pattern.compile(pattern).matcher(code);
            need(!matcher.find(), "in the text: " + pattern);
        }
        loopsCount(code);
        methodsAreShort(code);
    }

    /** The end of a loop is seen from its head: a counter that goes up by one against a bound. */
    private static void loopsCount(String code) {
        Matcher loop = Pattern.compile("\\bfor \\((.*)\\) \\{").matcher(code);
        int loops = 0;
        while (loop.find()) {
            loops++;
            need(COUNTING.matcher(loop.group(1)).matches(), "a loop that does not count: " + loop.group(1));
        }
        need(loops > 0 && loops == code.split("\\bfor\\b", -1).length - 1, "loops are not found in the text");
    }

    /** A method begins four or eight places in and ends with a brace at the same place. */
    private static void methodsAreShort(String code) {
        String[] lines = code.split("\n", -1);
        int methods = 0;
        for (int start = 0; start < lines.length; start++) {
            Matcher matcher = METHOD.matcher(lines[start]);
            if (matcher.matches()) {
                int end = start;
                while (end < lines.length && !lines[end].equals(matcher.group(1) + "}")) {
                    end++;
                }
                methods++;
                need(end - start < 60, "a method of more than sixty lines: " + lines[start].trim());
            }
        }
        need(methods > FACE.length, "methods are not found in the text");
    }

    /** What a run makes is counted: only constructors make anything. */
    private static void callsMakeNothing() {
        com.sun.management.ThreadMXBean bean =
                (com.sun.management.ThreadMXBean) ManagementFactory.getThreadMXBean();
        long thread = Thread.currentThread().getId();
        for (int q = 2; q <= 9; q++) {
            long least = Long.MAX_VALUE;
            // The machine may make something of its own while it warms up: so the best of some rounds.
            for (int round = 0; round < 5; round++) {
                FinitePlanes x = new FinitePlanes();
                long before = bean.getThreadAllocatedBytes(thread);
                allCalls(x, q);
                least = Math.min(least, bean.getThreadAllocatedBytes(thread) - before);
            }
            need(least == 0, "q " + q + ": calls make objects of " + least + " bytes");
        }
    }

    /** Fewer than 512 calls. */
    private static void allCalls(FinitePlanes x, int q) {
        x.begin(q);
        for (int k = -1; k < 14; k++) {
            x.reckon(k, 1, 1);
            x.triple(k, 1);
            x.number(k, 1, 1);
            x.on(k, 2);
            x.join(k, 0);
            x.row(k, 1);
            x.member(k);
            x.count(k);
            x.meets(k);
            x.is(k);
            x.greatest(k);
            x.closure(k);
            x.through(k);
            x.image(k);
            x.order();
            x.fixed();
            x.invert();
            x.move();
            x.frame(0, 1, q + 1, k);
            x.behind(0, 1, q + 1, k);
            x.ratio(0, 1, 2, k);
            x.table(k);
            x.mark(0, k, true);
            x.flaw();
            x.told();
            x.curve(1, 1, 1, 0, 0, k);
            x.put(k, k % 2 == 0);
            x.entry(k, 1);
            x.determinant();
        }
    }

    public static void main(String[] args) throws IOException {
        face();
        text();
        callsMakeNothing();
        System.out.println(wrong == 0 ? "the rules are kept" : wrong + " rules are not kept");
        if (wrong != 0) {
            System.exit(1);
        }
    }
}
