import java.lang.management.ManagementFactory;
import java.lang.reflect.Constructor;
import java.lang.reflect.Field;
import java.lang.reflect.Method;
import java.lang.reflect.Modifier;
import java.nio.file.Files;
import java.nio.file.Path;
import java.util.Arrays;
import java.util.Set;
import java.util.TreeSet;

/**
 * The face of the document and what of LANGUAGE.md a program can look at: the members, the words
 * that may not stand in the source, the length of methods, and that no call makes objects.
 */
public final class FaceTest {
    private static final int MOST_LINES = 60;
    private static final Set<Class<?>> CONSTANTS = Set.of(int.class, long.class, boolean.class, char.class, String.class,
        int[].class, long[].class, char[].class, byte[].class);

    private static int wrong = 0;

    private static void must(boolean holds, String what) {
        if (!holds) {
            wrong++;
            System.out.println("does not hold: " + what);
        }
    }

    private static void members() {
        Class<?> face = PatternBench.class;
        must(face.getModifiers() == (Modifier.PUBLIC | Modifier.FINAL), "the class is public and final");
        must(Arrays.toString(face.getDeclaredConstructors()).equals("[public PatternBench(int)]"), "the constructor");
        TreeSet<String> names = new TreeSet<>();
        for (Method method : face.getDeclaredMethods()) {
            if (Modifier.isPrivate(method.getModifiers()) || method.isSynthetic()) {
                continue;
            }
            must(Modifier.isPublic(method.getModifiers()), method + " is public or private");
            names.add(method.getReturnType() + " " + method.getName() + Arrays.toString(method.getParameterTypes()));
        }
        String due = "[int again[], int clear[], int compile[], int count[int], int end[int], int feed[int], int matches[], "
            + "int search[int], int start[int], int steps[], int write[int]]";
        must(names.toString().equals(due), "the methods are those of the document: " + names);
        must(face.getDeclaredClasses().length <= 12, "at most twelve classes");
        for (Class<?> inside : face.getDeclaredClasses()) {
            must(Modifier.isStatic(inside.getModifiers()), inside + " is static");
            must(!Modifier.isPublic(inside.getModifiers()), inside + " is private or package-visible");
            must(inside.getDeclaredClasses().length == 0, inside + " has no classes inside");
            insides(inside);
        }
        insides(face);
    }

    private static boolean isNameOfTheFace(String name) {
        return Arrays.stream(PatternBench.class.getMethods())
            .anyMatch(method -> method.getDeclaringClass() == PatternBench.class && method.getName().equals(name));
    }

    private static void insides(Class<?> owner) {
        int held = 0;
        for (Field field : owner.getDeclaredFields()) {
            boolean isStatic = Modifier.isStatic(field.getModifiers());
            must(!isStatic || Modifier.isFinal(field.getModifiers()), field + " is final");
            must(!isStatic || CONSTANTS.contains(field.getType()), field + " is a constant");
            held += isStatic ? 0 : 1;
            if (owner == PatternBench.class && !Modifier.isPrivate(field.getModifiers())) {
                must("REFUSED FULL WRONG NONE STOPPED UNSET ".contains(field.getName() + " ") && isStatic
                    && field.getType() == int.class, field + " is of the document");
            }
        }
        must(held <= 20, owner + " has at most twenty fields");
        for (Method method : owner.getDeclaredMethods()) {
            must(method.getParameterCount() <= 7, method + " has at most seven parameters");
            must(Modifier.isPublic(method.getModifiers()) || !isNameOfTheFace(method.getName()), method + " has a name of its own");
        }
        for (Constructor<?> constructor : owner.getDeclaredConstructors()) {
            must(constructor.getParameterCount() <= 7, constructor + " has at most seven parameters");
        }
    }

    private static void source(Path file) throws Exception {
        String text = Files.readString(file).replaceAll("(?s)/\\*.*?\\*/", "").replaceAll("//[^\n]*", "");
        String[] words = {"throw", "throws", "try", "catch", "synchronized", "assert", "import", "package", "native",
            "instanceof", "toString", "hashCode", "protected", "float", "double"};
        for (String word : words) {
            must(!text.matches("(?s).*\\b" + word + "\\b.*"), "the source has no " + word);
        }
        must(!text.contains("->") && !text.contains("::"), "the source has no lambda and no method reference");
        for (int code : text.chars().toArray()) {
            must(code < 128, "the source is plain");
        }
        methodsAreShort(text.split("\n"));
    }

    /** What opens with a bracket at a method's indent closes at the same indent: a method, or a part of one. */
    private static void methodsAreShort(String[] lines) {
        int seen = 0;
        for (int first = 0; first < lines.length; first++) {
            if (!lines[first].matches(" {4}( {4})?\\S.*\\) \\{")) {
                continue;
            }
            String closing = lines[first].replaceAll("\\S.*", "}");
            int last = first;
            while (last < lines.length && !lines[last].equals(closing)) {
                last++;
            }
            seen++;
            must(last - first < MOST_LINES, "a method of at most sixty lines: " + lines[first].trim());
        }
        must(seen > 50, "the methods are seen: " + seen);
    }

    private static long allocated() {
        com.sun.management.ThreadMXBean threads = (com.sun.management.ThreadMXBean) ManagementFactory.getThreadMXBean();
        return threads.getCurrentThreadAllocatedBytes();
    }

    private static int dearCalls(PatternBench x, String pattern) {
        int sum = 0;
        for (int call = 0; call < 12; call++) {
            for (int k = 0; k < pattern.length(); k++) {
                sum += x.write(pattern.charAt(k));
            }
            sum += x.compile() + x.feed('a') + x.search(0) + x.again() + x.start(1) + x.end(1) + x.steps() + x.count(3) + x.matches();
        }
        return sum + x.clear();
    }

    /** The room of a run is counted in objects and elements; bytes tell as much here. */
    private static void room() {
        String pattern = "(a??a??a??a??(?1)?(?1)?)*?|a++b";
        dearCalls(new PatternBench(300), pattern);
        long before = allocated();
        PatternBench x = new PatternBench(300);
        long made = allocated() - before;
        must(made < 300000, "a new object is small: " + made + " bytes");
        before = allocated();
        dearCalls(x, pattern);
        long used = allocated() - before;
        must(used < 4096, "no call makes objects: " + used + " bytes");
    }

    public static void main(String[] args) throws Exception {
        members();
        source(Path.of("src/main/java/PatternBench.java"));
        room();
        System.out.println(wrong == 0 ? "the face and the rules hold" : wrong + " do not hold");
        if (wrong != 0) {
            System.exit(1);
        }
    }
}
