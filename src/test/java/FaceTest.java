import java.lang.reflect.Constructor;
import java.lang.reflect.Field;
import java.lang.reflect.Method;
import java.lang.reflect.Modifier;
import java.util.Set;
import java.util.TreeSet;

/** The class's face: what the document names, and nothing else that can be seen from outside. */
public final class FaceTest {
    public static void main(String[] args) {
        Check check = new Check("The public face");
        check.sentence("public final class AllocForge");
        int modifiers = AllocForge.class.getModifiers();
        check.due(true, "public final class", () -> Modifier.isPublic(modifiers) && Modifier.isFinal(modifiers));
        check.due(wanted(), "the methods seen", FaceTest::methodsSeen);
        check.due("[public AllocForge()]", "the constructors", FaceTest::constructors);
        check.due("[]", "the fields seen, and static ones that are not final", FaceTest::looseFields);
        check.due("[]", "private methods with a public name", FaceTest::privateTwins);
        check.end();
    }

    private static Set<String> wanted() {
        Set<String> face = new TreeSet<>();
        face.add("int add(int,int,int,int) throws IllegalArgumentException,IllegalStateException");
        face.add("int clear()");
        face.add("int allocate(int) throws IllegalArgumentException,IllegalStateException");
        face.add("int place(int) throws IndexOutOfBoundsException,IllegalStateException");
        face.add("double weight(int) throws IndexOutOfBoundsException");
        face.add("int told(int,int) throws IllegalArgumentException,IndexOutOfBoundsException");
        face.add("double cost() throws IllegalStateException");
        face.add("int run(int,int,int,int) throws ArithmeticException");
        face.add("int go(int,int,int,int) throws IllegalStateException,ArithmeticException");
        face.add("boolean same(int,int,int,int) throws IllegalStateException");
        face.add("int said(int) throws IndexOutOfBoundsException");
        face.add("int count(int) throws IllegalArgumentException");
        return face;
    }

    private static Set<String> methodsSeen() {
        Set<String> seen = new TreeSet<>();
        for (Method method : AllocForge.class.getDeclaredMethods()) {
            if (!Modifier.isPrivate(method.getModifiers())) {
                seen.add(described(method));
            }
        }
        return seen;
    }

    private static String described(Method method) {
        String text = method.toGenericString().replace("AllocForge.", "").replace("java.lang.", "");
        return text.startsWith("public ") ? text.substring("public ".length()) : text;
    }

    private static String constructors() {
        Set<String> all = new TreeSet<>();
        for (Constructor<?> constructor : AllocForge.class.getDeclaredConstructors()) {
            all.add(constructor.toString());
        }
        return all.toString();
    }

    private static String looseFields() {
        Set<String> loose = new TreeSet<>();
        for (Field field : AllocForge.class.getDeclaredFields()) {
            int modifiers = field.getModifiers();
            boolean changing = Modifier.isStatic(modifiers) && !Modifier.isFinal(modifiers);
            if (!Modifier.isPrivate(modifiers) || changing) {
                loose.add(field.getName());
            }
        }
        return loose.toString();
    }

    private static String privateTwins() {
        Set<String> names = new TreeSet<>();
        Set<String> twins = new TreeSet<>();
        for (Method method : AllocForge.class.getDeclaredMethods()) {
            if (!names.add(method.getName())) {
                twins.add(method.getName());
            }
        }
        return twins.toString();
    }
}
