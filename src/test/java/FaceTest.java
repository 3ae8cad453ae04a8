import java.lang.reflect.Constructor;
import java.lang.reflect.Field;
import java.lang.reflect.Method;
import java.lang.reflect.Modifier;
import java.util.Set;
import java.util.TreeSet;

/** The public face is the document's, to the letter, and nothing else shows. */
final class FaceTest {

    private static final String[] FACE = {
        "public int anew(int) throws IndexOutOfBoundsException",
        "public int append(int) throws IllegalArgumentException,IllegalStateException",
        "public int bestSplit(int) throws IndexOutOfBoundsException",
        "public int bit(int,int) throws IndexOutOfBoundsException,IllegalArgumentException",
        "public int block(int,int) throws IndexOutOfBoundsException,IllegalArgumentException",
        "public int change(int,int) throws IndexOutOfBoundsException,IllegalArgumentException",
        "public int clearBuffer()",
        "public int close() throws IllegalStateException",
        "public int count(int) throws IllegalArgumentException",
        "public int drop(int) throws IndexOutOfBoundsException",
        "public int firstError()",
        "public int goBack() throws IllegalStateException",
        "public int ifChanged(int,int,int) throws IndexOutOfBoundsException,"
            + "IllegalArgumentException",
        "public int join(int) throws IndexOutOfBoundsException,IllegalStateException",
        "public int keep()",
        "public int least(int) throws IllegalArgumentException",
        "public int load() throws IllegalArgumentException",
        "public int match(int,int,int) throws IllegalArgumentException",
        "public int set(int,int) throws IndexOutOfBoundsException,IllegalArgumentException",
        "public int setting(int) throws IndexOutOfBoundsException",
        "public int size(int,int) throws IndexOutOfBoundsException,IllegalArgumentException",
        "public int split(int,int) throws IndexOutOfBoundsException,IllegalStateException",
        "public int undo() throws IllegalStateException",
        "public int value(int,int) throws IndexOutOfBoundsException,IllegalArgumentException",
        "public int write(int) throws IllegalArgumentException,IllegalStateException",
        "public double sizeShare()",
        "public float meanBits()",
        "public long digest()"};

    private static final Check check = new Check("FaceTest");

    public static void main(String[] args) {
        methods();
        fields();
        classes();
        check.end();
    }

    private static void methods() {
        Set<String> due = new TreeSet<>(Set.of(FACE));
        Set<String> shown = new TreeSet<>();
        Set<String> names = new TreeSet<>();
        for (Method method : PickedForms.class.getDeclaredMethods()) {
            if (!Modifier.isPrivate(method.getModifiers())) {
                shown.add(method.toGenericString().replace("java.lang.", "")
                        .replace("PickedForms.", ""));
                names.add(method.getName());
            }
        }
        check.same("the face", shown.toString(), due.toString());
        for (Method method : PickedForms.class.getDeclaredMethods()) {
            boolean hidden = Modifier.isPrivate(method.getModifiers());
            check.same("no private method is named " + method.getName(),
                    hidden && names.contains(method.getName()) ? 1 : 0, 0);
        }
        for (Class<?> inside : PickedForms.class.getDeclaredClasses()) {
            for (Method method : inside.getDeclaredMethods()) {
                check.same("no method inside is named " + method.getName(),
                        names.contains(method.getName()) ? 1 : 0, 0);
            }
        }
        Constructor<?>[] constructors = PickedForms.class.getDeclaredConstructors();
        check.same("constructors", constructors.length, 1);
        check.same("the constructor", constructors[0].toGenericString(), "public PickedForms()");
    }

    private static void fields() {
        for (Field field : PickedForms.class.getDeclaredFields()) {
            if (!Modifier.isPrivate(field.getModifiers())) {
                check.same("a field that shows", field.toGenericString(),
                        "public static final int PickedForms.NONE");
            }
            if (Modifier.isStatic(field.getModifiers())) {
                check.same("static fields are final: " + field.getName(),
                        Modifier.isFinal(field.getModifiers()) ? 1 : 0, 1);
            }
        }
        check.same("NONE", PickedForms.NONE, -1);
    }

    private static void classes() {
        check.same("the class is public and final",
                PickedForms.class.getModifiers() & (Modifier.PUBLIC | Modifier.FINAL),
                Modifier.PUBLIC | Modifier.FINAL);
        Class<?>[] inside = PickedForms.class.getDeclaredClasses();
        check.same("few classes inside", inside.length <= 11 ? 1 : 0, 1);
        for (Class<?> one : inside) {
            check.same("static: " + one.getSimpleName(),
                    Modifier.isStatic(one.getModifiers()) ? 1 : 0, 1);
            check.same("not public: " + one.getSimpleName(),
                    Modifier.isPublic(one.getModifiers()) ? 1 : 0, 0);
        }
    }
}
