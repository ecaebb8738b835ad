import java.io.IOException;
import java.lang.reflect.Constructor;
import java.lang.reflect.Field;
import java.lang.reflect.Method;
import java.lang.reflect.Modifier;
import java.nio.file.Files;
import java.nio.file.Path;
import java.util.Arrays;
import java.util.HashSet;
import java.util.Set;
import java.util.TreeSet;
import java.util.regex.Matcher;
import java.util.regex.Pattern;
import java.util.stream.Collectors;

/** The public face as the document has it, and the rules of LANGUAGE.md that can be looked for. */
public final class FaceTests {
    private static final String[] FACE = {
        "public static final int NONE", "public static final int FAILED", "public static final int OTHER",
        "public static final int NEW", "public static final int COPIED", "public static final int FLIPPED",
        "public static final int GONE",
        "public ShardRing(int, int)",
        "public int put(int, int) throws IllegalStateException",
        "public int remove(int) throws IllegalStateException",
        "public int get(int) throws IllegalStateException, NoSuchElementException",
        "public int join(int, int) throws IndexOutOfBoundsException, IllegalArgumentException, IllegalStateException",
        "public int leave(int) throws IndexOutOfBoundsException, IllegalStateException",
        "public int step() throws IllegalStateException",
        "public void fail(int) throws IllegalArgumentException, IllegalStateException",
        "public int recover() throws IllegalStateException",
        "public boolean off()",
        "public int place(long)",
        "public int owner(int) throws IllegalStateException",
        "public int home(int) throws IllegalStateException",
        "public int state(int) throws IllegalStateException",
        "public boolean holds(int, int) throws IndexOutOfBoundsException",
        "public int size(int) throws IndexOutOfBoundsException",
        "public int key(int, int) throws IndexOutOfBoundsException",
        "public int points(int) throws IndexOutOfBoundsException, IllegalStateException",
        "public int count(int) throws IllegalArgumentException, IllegalStateException",
        "public int written(boolean)",
        "public long share(int) throws IndexOutOfBoundsException, IllegalStateException"
    };

    private static final String[] NOT_IN_SOURCE = {
        "\\bcatch\\b", "\\bfinally\\b", "->", "::", "\\bsynchronized\\b", "\\bassert\\b", "\\bSystem\\.(?!arraycopy)",
        "Exact\\(", "\\bRandom\\b", "\\bThread\\b", "\\bpackage\\b", "\\bprotected\\b", "\\bfloat\\b", "\\bdouble\\b",
        "[^\\x00-\\x7f]"
    };

    private static int wrong;

    public static void main(String[] args) throws IOException {
        face();
        names();
        sizes();
        source(Files.readString(Path.of("src/main/java/ShardRing.java")));
        System.out.println(wrong + " wrong");
        if (wrong != 0) {
            System.exit(1);
        }
    }

    private static void face() {
        need(Modifier.isPublic(ShardRing.class.getModifiers()), "the class is public");
        need(Modifier.isFinal(ShardRing.class.getModifiers()), "the class is final");
        Set<String> due = new TreeSet<>(Arrays.asList(FACE));
        Set<String> seen = new TreeSet<>();
        for (Field field : ShardRing.class.getDeclaredFields()) {
            see(seen, field.getModifiers(), field.toGenericString());
        }
        for (Constructor<?> constructor : ShardRing.class.getDeclaredConstructors()) {
            see(seen, constructor.getModifiers(), constructor.toGenericString());
        }
        for (Method method : ShardRing.class.getDeclaredMethods()) {
            see(seen, method.getModifiers(), method.toGenericString());
        }
        for (String member : due) {
            need(seen.contains(member), "missing: " + member);
        }
        for (String member : seen) {
            need(due.contains(member), "not in the face: " + member);
        }
    }

    private static void see(Set<String> seen, int modifiers, String member) {
        if (!Modifier.isPrivate(modifiers)) {
            seen.add(member.replaceAll("java\\.(lang|util)\\.", "").replace("ShardRing.", "").replace(",", ", "));
        }
    }

    private static void names() {
        Set<String> open = Arrays.stream(ShardRing.class.getMethods()).map(Method::getName).collect(Collectors.toSet());
        for (Method method : ShardRing.class.getDeclaredMethods()) {
            need(!Modifier.isPrivate(method.getModifiers()) || !open.contains(method.getName()), "private " + method);
        }
        for (Class<?> inside : ShardRing.class.getDeclaredClasses()) {
            need(Modifier.isStatic(inside.getModifiers()), "not static: " + inside);
            need(!Modifier.isPublic(inside.getModifiers()), "public: " + inside);
            for (Method method : inside.getDeclaredMethods()) {
                need(!open.contains(method.getName()), "a name of the face: " + method);
            }
        }
    }

    private static void sizes() {
        Set<Class<?>> all = new HashSet<>(Arrays.asList(ShardRing.class.getDeclaredClasses()));
        all.add(ShardRing.class);
        need(all.size() <= 12, "at most twelve classes");
        for (Class<?> one : all) {
            int ofObject = 0;
            for (Field field : one.getDeclaredFields()) {
                boolean isStatic = Modifier.isStatic(field.getModifiers());
                need(!isStatic || Modifier.isFinal(field.getModifiers()), "static and not final: " + field);
                ofObject += isStatic ? 0 : 1;
            }
            need(ofObject <= 20, "at most twenty fields: " + one);
            for (Method method : one.getDeclaredMethods()) {
                need(method.getParameterCount() <= 7, "at most seven parameters: " + method);
            }
        }
    }

    private static void source(String text) {
        for (String pattern : NOT_IN_SOURCE) {
            Matcher matcher = Pattern.compile(pattern).matcher(text);
            need(!matcher.find(), "in the source: " + pattern);
        }
        Matcher imports = Pattern.compile("import ([^;]*);").matcher(text);
        while (imports.find()) {
            String name = imports.group(1);
            need(name.equals("java.util.Arrays") || name.equals("java.util.NoSuchElementException"), "import " + name);
        }
    }

    private static void need(boolean holds, String what) {
        if (!holds) {
            wrong++;
            System.out.println("wrong: " + what);
        }
    }
}
