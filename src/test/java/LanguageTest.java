import java.io.IOException;
import java.lang.reflect.Constructor;
import java.lang.reflect.Executable;
import java.lang.reflect.Field;
import java.lang.reflect.Method;
import java.lang.reflect.Modifier;
import java.nio.file.Files;
import java.nio.file.Path;
import java.util.ArrayList;
import java.util.Arrays;
import java.util.List;
import java.util.Set;
import java.util.TreeSet;
import java.util.regex.Matcher;
import java.util.regex.Pattern;

/** The face of the class, and those rules of LANGUAGE.md that can be seen from outside of the runs. */
public final class LanguageTest {
    private static final Path SOURCE = Path.of("src/main/java/PulseParts.java");
    private static final String[] FACE = {
        "int feed(int, int, int, int, int)", "boolean end(int)", "int fault(int)", "int text(int)",
        "int sign(int, int) throws java.util.NoSuchElementException", "int rest(int, int)", "int weight(int, int, int)",
        "int comes(int, int, int, int, int, int)", "int lobes(int, int, int)", "int hinder(int, int)", "int friends(int)",
        "int best(int, int)", "int filter(int, int)", "boolean set(int, int)", "int seen(int, int)", "int map(int, int, int)",
        "int choice(int, int, int, int)", "boolean read(int, int)", "int unfold(int, int, int, int, int)",
        "int ghosts(int, int, int, int)", "int cell(int)", "boolean change(int, int)", "boolean draw(int, int, long)",
        "int at(int)", "int undo(boolean)", "int found(int)", "int alarms()", "long share(int, int, int, int, int)",
        "int beam(int, int, int)", "int plan(int)", "int like(int, int)", "int partners(int, int)", "int cancel(int, int)",
        "int stagger(int, int, int, int, int)", "int factor(int, int, int, int)", "int heaps(int)", "int image()", "int back()",
        "int count(int)"};

    private static int wrong = 0;

    public static void main(String[] args) throws IOException {
        face();
        classes();
        String code = withoutComments(Files.readString(SOURCE));
        words(code);
        methods(code);
        System.out.println(wrong == 0 ? "the face and the rules hold" : wrong + " rules are broken");
        if (wrong != 0) {
            System.exit(1);
        }
    }

    private static void must(boolean holds, String rule) {
        if (!holds) {
            wrong++;
            System.out.println("broken: " + rule);
        }
    }

    private static void face() {
        Class<PulseParts> c = PulseParts.class;
        must(Modifier.isPublic(c.getModifiers()) && Modifier.isFinal(c.getModifiers()), "the class is public and final");
        Constructor<?>[] makers = c.getDeclaredConstructors();
        must(makers.length == 1 && Modifier.isPublic(makers[0].getModifiers()) && makers[0].getParameterCount() == 0,
                "one constructor, public, without parameters");
        Set<String> open = new TreeSet<>();
        Set<String> names = new TreeSet<>();
        for (Method m : c.getDeclaredMethods()) {
            if (!Modifier.isPrivate(m.getModifiers())) {
                must(m.getModifiers() == Modifier.PUBLIC, m + " is public and nothing else");
                open.add(told(m));
                names.add(m.getName());
            }
        }
        must(open.equals(new TreeSet<>(Arrays.asList(FACE))), "the methods of the face: " + open);
        for (Field f : c.getDeclaredFields()) {
            boolean constant = f.getName().equals("NONE") || f.getName().equals("HIDDEN");
            int want = Modifier.STATIC | Modifier.FINAL;
            must(constant ? f.getModifiers() == (want | Modifier.PUBLIC) : Modifier.isPrivate(f.getModifiers()), "the field " + f);
        }
        List<Class<?>> all = new ArrayList<>(Arrays.asList(c.getDeclaredClasses()));
        all.add(c);
        for (Class<?> one : all) {
            for (Method m : one.getDeclaredMethods()) {
                must(m.getModifiers() == Modifier.PUBLIC && one == c || !names.contains(m.getName()),
                        m + " bears the name of a public one");
            }
        }
    }

    private static String told(Method m) {
        StringBuilder s = new StringBuilder(m.getReturnType() + " " + m.getName() + "(");
        for (Class<?> p : m.getParameterTypes()) {
            s.append(s.charAt(s.length() - 1) == '(' ? "" : ", ").append(p.getName());
        }
        s.append(")");
        for (Class<?> t : m.getExceptionTypes()) {
            s.append(" throws ").append(t.getName());
        }
        return s.toString();
    }

    private static void classes() {
        Class<?>[] inside = PulseParts.class.getDeclaredClasses();
        must(inside.length + 1 <= 12, "some twelve classes");
        for (Class<?> c : inside) {
            must(Modifier.isPrivate(c.getModifiers()) && Modifier.isStatic(c.getModifiers()), c + " is private and static");
            must(c.getDeclaredClasses().length == 0, c + " has no class inside");
            limits(c);
        }
        limits(PulseParts.class);
    }

    private static void limits(Class<?> c) {
        int fields = 0;
        for (Field f : c.getDeclaredFields()) {
            if (Modifier.isStatic(f.getModifiers())) {
                must(Modifier.isFinal(f.getModifiers()), f + " is final");
                must(Set.of(int.class, long.class, boolean.class, char.class, String.class, int[].class).contains(f.getType()),
                        f + " is of a constant's type");
            } else {
                fields++;
            }
        }
        must(fields <= 20, c + " has some twenty fields");
        List<Executable> all = new ArrayList<>(Arrays.asList(c.getDeclaredMethods()));
        all.addAll(Arrays.asList(c.getDeclaredConstructors()));
        for (Executable e : all) {
            must(e.getParameterCount() <= 7, e + " takes at most seven parameters");
        }
    }

    private static String withoutComments(String source) {
        return source.replaceAll("(?s)/\\*.*?\\*/", "").replaceAll("//[^\n]*", "");
    }

    private static void words(String code) {
        String[] never = {"package", "->", "::", "synchronized", "assert", "finally", "catch", "instanceof", "record", "extends",
            "implements", "static {", "System.", "Thread", "Random", "Exact", "printStackTrace", "equals", "hashCode", "toString",
            "@", "float", "double", "\"", "volatile", "transient", "native", "var ", "yield"};
        for (String word : never) {
            must(!code.contains(word), "no " + word);
        }
        must(Pattern.compile("import ([\\w.]+);").matcher(code).results().map(m -> m.group(1)).toList()
                .equals(List.of("java.util.Arrays", "java.util.NoSuchElementException")), "the imports");
        must(Pattern.compile("Arrays\\.(?!fill\\()").matcher(code).results().count() == 0, "of Arrays fill alone");
        must(Pattern.compile("Math\\.(?!(max|min|abs)\\()").matcher(code).results().count() == 0, "of Math max, min, abs alone");
        must(Pattern.compile("(Integer|Long)\\.(?!bitCount\\()").matcher(code).results().count() == 0, "of Integer and Long bitCount alone");
        must(Pattern.compile("throw new").matcher(code).results().count() == 1, "the one throw of the face");
        // Rows are made in constructors alone, so no call makes an object but for the exception.
        Matcher made = Pattern.compile("new \\w+").matcher(code);
        while (made.find()) {
            int ahead = code.lastIndexOf("\n    }", made.start());
            int inside = code.lastIndexOf("\n        }", made.start());
            String method = code.substring(Math.max(0, Math.max(ahead, inside)), made.start());
            must(made.group().equals("new NoSuchElementException") || method.contains("public PulseParts()")
                    || Pattern.compile("\n        [A-Z]\\w*\\([^)]*\\) \\{").matcher(method).find(), made.group() + " stands in a constructor");
        }
    }

    /** Methods stay short; a loop that is no counting one is seldom, so each is looked at by name. */
    private static void methods(String code) {
        String[] lines = code.split("\n", -1);
        for (int i = 0; i < lines.length; i++) {
            Matcher head = Pattern.compile("^( {4}| {8})(?!\\s)(?!.*\\bclass\\b).*\\) (throws \\w+ )?\\{$").matcher(lines[i]);
            if (head.find()) {
                int end = i;
                while (end < lines.length && !lines[end].equals(head.group(1) + "}")) {
                    end++;
                }
                must(end - i < 60, "a method of sixty lines at most: " + lines[i].trim());
            }
            must(!lines[i].matches(".*\\bwhile \\((true|1 == 1)\\).*") && !lines[i].contains("for (;;"), "a loop with an end: " + lines[i].trim());
        }
    }
}
