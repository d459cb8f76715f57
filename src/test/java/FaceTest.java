import java.lang.reflect.Field;
import java.lang.reflect.Method;
import java.lang.reflect.Modifier;
import java.util.TreeSet;

/** The public face is the document's, and nothing else of the class can be seen from outside. */
public final class FaceTest {
    private static final String FACE = """
        public int feed(int a, int b, int c, int d, int e);
        public int group(int n) throws IllegalArgumentException;
        public int law(int n) throws IllegalArgumentException;
        public int work(int n) throws IllegalArgumentException;
        public int book(int n) throws IllegalArgumentException;
        public int fault();
        public int undo();
        public int told(int what) throws IllegalArgumentException;
        public int member(int member, int what) throws NoSuchElementException, IllegalArgumentException;
        public long tally(int member) throws NoSuchElementException;
        public long log(int member, int i) throws NoSuchElementException, NullPointerException, IndexOutOfBoundsException;
        public int message(int k, int what) throws IllegalArgumentException, NullPointerException, IndexOutOfBoundsException;
        public int knows(int member, int other) throws NoSuchElementException;
        public int stable(int member) throws NoSuchElementException;
        public int would(int member, int age, int view, int size) throws IllegalArgumentException;
        public int primary();
        public int missing(int member) throws NoSuchElementException;
        public int lost();
        public int fall();
        public int splits();
        public int tells();
        public int next(int member) throws NoSuchElementException;
        public int held(int member, int i) throws NoSuchElementException, IllegalArgumentException;
        public boolean agree();
        public int fits(int what) throws IllegalArgumentException;
        public int look(int what) throws IllegalArgumentException;
        public int note();
        public int spelt(int i) throws IllegalArgumentException;
        public int lore(int member) throws NoSuchElementException;
        public int behind(int what) throws IllegalArgumentException;
        public int storm(int seed, int many, int q, int what) throws IllegalArgumentException;
        public int span(int seed, int seeds, int many, int q, int what, int member) throws NoSuchElementException, IllegalArgumentException;
        public int image();
        public int restore();
        public int status(int what);
        public int count(int what);
        """;
    private static boolean wrong;

    private FaceTest() { }

    public static void main(String[] args) throws Exception {
        same("methods", due(), seen());
        same("fields", new TreeSet<>(java.util.List.of("public static final int FlushViews.NONE")), fields());
        check("the class is public and final", FlushViews.class.getModifiers() == (Modifier.PUBLIC | Modifier.FINAL));
        check("one public constructor without parameters", FlushViews.class.getDeclaredConstructors().length == 1
            && Modifier.isPublic(FlushViews.class.getDeclaredConstructor().getModifiers()));
        check("NONE is -1", FlushViews.NONE == -1);
        for (Class<?> inner : FlushViews.class.getDeclaredClasses()) {
            boolean hidden = !Modifier.isPublic(inner.getModifiers()) && !Modifier.isProtected(inner.getModifiers());
            check(inner + " is static and not public", hidden && Modifier.isStatic(inner.getModifiers()));
        }
        System.out.println("FaceTest: " + (wrong ? "wrong" : "all as due"));
        System.exit(wrong ? 1 : 0);
    }

    /** Each method as its modifiers, types and exceptions. */
    private static TreeSet<String> due() {
        TreeSet<String> methods = new TreeSet<>();
        for (String line : FACE.split("\n")) {
            methods.add(line.replaceAll("int [a-z]+(?=[,)])", "int").replace(", ", ",").replace(";", ""));
        }
        return methods;
    }

    private static TreeSet<String> seen() {
        TreeSet<String> methods = new TreeSet<>();
        for (Method m : FlushViews.class.getDeclaredMethods()) {
            if (!Modifier.isPrivate(m.getModifiers())) {
                methods.add(m.toString().replace("FlushViews.", "").replaceAll("java\\.(lang|util)\\.", ""));
            }
        }
        return methods;
    }

    private static TreeSet<String> fields() {
        TreeSet<String> fields = new TreeSet<>();
        for (Field f : FlushViews.class.getDeclaredFields()) {
            if (!Modifier.isPrivate(f.getModifiers())) {
                fields.add(f.toString());
            }
        }
        return fields;
    }

    private static void same(String what, TreeSet<String> due, TreeSet<String> seen) {
        TreeSet<String> lacking = new TreeSet<>(due);
        lacking.removeAll(seen);
        TreeSet<String> beyond = new TreeSet<>(seen);
        beyond.removeAll(due);
        check(what + " lacking: " + lacking + ", beyond: " + beyond, lacking.isEmpty() && beyond.isEmpty());
    }

    private static void check(String what, boolean holds) {
        if (!holds) {
            wrong = true;
            System.out.println("not so: " + what);
        }
    }
}
