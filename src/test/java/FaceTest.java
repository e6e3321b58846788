import java.lang.reflect.Field;
import java.lang.reflect.Method;
import java.lang.reflect.Modifier;
import java.util.Set;
import java.util.TreeSet;

/** The class has the document's face and shows nothing else. */
public final class FaceTest {
    private static final String ARGUMENT = "java.lang.IllegalArgumentException";
    private static final String STATE = "java.lang.IllegalStateException";
    private static final String INDEX = "java.lang.IndexOutOfBoundsException";
    private static final String ELEMENT = "java.util.NoSuchElementException";

    private static final Set<String> FACE = Set.of(
            "public int ReadGraph.read(int,int) throws " + ARGUMENT + "," + STATE,
            "public void ReadGraph.clear()",
            "public int ReadGraph.letter(int,int) throws " + ARGUMENT + "," + INDEX,
            "public boolean ReadGraph.contained(int) throws " + ARGUMENT,
            "public int ReadGraph.overlap(int,int,int) throws " + ARGUMENT,
            "public int ReadGraph.build(int) throws " + ARGUMENT,
            "public int ReadGraph.all()",
            "public int ReadGraph.edge(int,int) throws " + ARGUMENT + "," + ELEMENT,
            "public boolean ReadGraph.way(int,int) throws " + ARGUMENT,
            "public int ReadGraph.kind()",
            "public boolean ReadGraph.safe(long,int) throws " + ARGUMENT,
            "public int ReadGraph.walks() throws " + STATE,
            "public int ReadGraph.walk(int,int) throws " + ELEMENT + "," + INDEX,
            "public int ReadGraph.spelled(int,int) throws " + ELEMENT + "," + INDEX);

    public static void main(String[] args) {
        classAndConstructor();
        methods();
        fields();
        classesInside();
        Check.end();
    }

    private static void classAndConstructor() {
        Check.sentence("The public face: public final class ReadGraph");
        Check.same("its words", Modifier.PUBLIC | Modifier.FINAL, () -> ReadGraph.class.getModifiers());
        Check.same("its constructors", 1, () -> ReadGraph.class.getDeclaredConstructors().length);
        Check.same("the constructor", "public ReadGraph()",
                () -> ReadGraph.class.getDeclaredConstructors()[0].toString());
        Check.same("classes above it", Object.class, () -> ReadGraph.class.getSuperclass());
        Check.same("interfaces", 0, () -> ReadGraph.class.getInterfaces().length);
    }

    private static void methods() {
        Check.sentence("The public face: its methods");
        Set<String> open = new TreeSet<>();
        Set<String> names = new TreeSet<>();
        for (Method method : ReadGraph.class.getDeclaredMethods()) {
            if (!Modifier.isPrivate(method.getModifiers())) {
                open.add(method.toString());
                names.add(method.getName());
            }
        }
        Check.same("all that are not private", new TreeSet<>(FACE), () -> open);
        noneNamedSo(ReadGraph.class, names);
        for (Class<?> inside : ReadGraph.class.getDeclaredClasses()) {
            noneNamedSo(inside, names);
        }
    }

    private static void noneNamedSo(Class<?> one, Set<String> names) {
        for (Method method : one.getDeclaredMethods()) {
            if (Modifier.isPrivate(method.getModifiers())) {
                Check.same("a public method named as the private " + method.getName(), false,
                        () -> names.contains(method.getName()));
            }
        }
    }

    private static void fields() {
        Check.sentence("LANGUAGE.md 1 and 5: fields are private, static ones final");
        for (Field field : ReadGraph.class.getDeclaredFields()) {
            int words = field.getModifiers();
            Check.same(field.getName() + " is private", true, () -> Modifier.isPrivate(words));
            Check.same(field.getName() + " is final or of the object", true,
                    () -> Modifier.isFinal(words) || !Modifier.isStatic(words));
        }
    }

    private static void classesInside() {
        Check.sentence("LANGUAGE.md 1: classes inside are static, and neither public nor protected");
        for (Class<?> inside : ReadGraph.class.getDeclaredClasses()) {
            int words = inside.getModifiers();
            Check.same(inside.getSimpleName() + " is static", true, () -> Modifier.isStatic(words));
            Check.same(inside.getSimpleName() + " is shown", false,
                    () -> Modifier.isPublic(words) || Modifier.isProtected(words));
        }
    }
}
