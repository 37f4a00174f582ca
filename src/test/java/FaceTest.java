import java.lang.reflect.Constructor;
import java.lang.reflect.Field;
import java.lang.reflect.Method;
import java.lang.reflect.Modifier;
import java.util.Arrays;
import java.util.TreeSet;

/** The document's face and no more of it; rule 1 and rule 11 of LANGUAGE.md. */
public final class FaceTest {
    private static final String[] FACE = {
        "public int PlaceTests.at(int,int,int) throws"
            + " java.lang.IllegalArgumentException,java.lang.IndexOutOfBoundsException",
        "public int PlaceTests.clear(int,int,int,int) throws java.lang.IllegalArgumentException",
        "public int PlaceTests.draw(int,int,int,int,int,int,int,int) throws"
            + " java.lang.IllegalArgumentException",
        "public int PlaceTests.drawn(int) throws java.lang.IllegalArgumentException",
        "public int PlaceTests.sum(int) throws java.lang.IllegalArgumentException",
        "public void PlaceTests.blend(int,int,int,int,int,int) throws"
            + " java.lang.IllegalArgumentException",
        "public void PlaceTests.constant(int)",
        "public void PlaceTests.depth(int,boolean) throws java.lang.IllegalArgumentException",
        "public void PlaceTests.frame(int,int,int,int) throws java.lang.IllegalArgumentException",
        "public void PlaceTests.logic(int) throws java.lang.IllegalArgumentException",
        "public void PlaceTests.mask(int) throws java.lang.IllegalArgumentException",
        "public void PlaceTests.scissors(int,int,int,int)",
        "public void PlaceTests.stencil(int,int,int,int,int,int,int,int) throws"
            + " java.lang.IllegalArgumentException",
    };

    public static void main(String[] args) {
        Checks checks = new Checks();
        TreeSet<String> seen = new TreeSet<>();
        TreeSet<String> names = new TreeSet<>();
        for (Method method : PlaceTests.class.getDeclaredMethods()) {
            if (!Modifier.isPrivate(method.getModifiers())) {
                seen.add(method.toGenericString());
                names.add(method.getName());
            }
        }
        TreeSet<String> face = new TreeSet<>(Arrays.asList(FACE));
        if (!seen.equals(face)) {
            System.out.println("the face is " + seen);
            checks.due("the methods are the face", 0, 1);
        }
        int classModifiers = PlaceTests.class.getModifiers();
        checks.due("modifiers", classModifiers, Modifier.PUBLIC | Modifier.FINAL);
        Constructor<?>[] constructors = PlaceTests.class.getDeclaredConstructors();
        checks.due("constructors", constructors.length, 1);
        checks.due("its parameters", constructors[0].getParameterCount(), 0);
        checks.due("its modifiers", constructors[0].getModifiers(), Modifier.PUBLIC);
        for (Field field : PlaceTests.class.getDeclaredFields()) {
            checks.due(field + " is private", field.getModifiers() & Modifier.PRIVATE,
                    Modifier.PRIVATE);
        }
        checkPrivateMethods(checks, names, PlaceTests.class);
        for (Class<?> inside : PlaceTests.class.getDeclaredClasses()) {
            checks.due(inside + " is static", inside.getModifiers() & Modifier.STATIC,
                    Modifier.STATIC);
            checkPrivateMethods(checks, names, inside);
        }
        checks.end();
    }

    private static void checkPrivateMethods(Checks checks, TreeSet<String> names, Class<?> of) {
        for (Method method : of.getDeclaredMethods()) {
            if (Modifier.isPrivate(method.getModifiers())) {
                checks.due(method + " has a public name", names.contains(method.getName()) ? 1 : 0,
                        0);
                checks.due(method + " has over seven parameters",
                        method.getParameterCount() > 7 ? 1 : 0, 0);
            }
        }
    }
}
