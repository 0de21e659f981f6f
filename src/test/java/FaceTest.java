import java.lang.reflect.Constructor;
import java.lang.reflect.Field;
import java.lang.reflect.Method;
import java.lang.reflect.Modifier;
import java.util.Arrays;
import java.util.Set;
import java.util.TreeSet;

/** The class has the document's face, and nothing else in it can be seen from outside. */
public final class FaceTest {
    private static int wrong = 0;

    private static void due(String what, Object got, Object want) {
        if (!got.equals(want)) {
            wrong++;
            System.out.println(what + " is " + got + ", due is " + want);
        }
    }

    private static void checkMethods() {
        Set<String> want = new TreeSet<>(Arrays.asList(
            "depth[int]", "sample[int, int]", "drop[int]", "coefficients[int, int, long]", "pack[]",
            "told[int]", "row[int, int]", "price[int, int]", "size[]", "at[int]", "alter[int, int]",
            "add[int]", "cut[int]", "open[int]", "shown[int]", "got[int, int]", "take[]", "frames[]"));
        Set<String> names = new TreeSet<>();
        for (String one : want) {
            names.add(one.substring(0, one.indexOf('[')));
        }
        Set<String> got = new TreeSet<>();
        for (Method m : SamplePacks.class.getDeclaredMethods()) {
            if (Modifier.isPrivate(m.getModifiers())) {
                due("private method " + m.getName() + " bears a public name", names.contains(m.getName()), false);
                continue;
            }
            got.add(m.getName() + Arrays.toString(m.getParameterTypes()));
            due("modifiers of " + m.getName(), Modifier.toString(m.getModifiers()), "public");
            due("answer of " + m.getName(), m.getReturnType(), int.class);
            due("exceptions of " + m.getName(), Arrays.toString(m.getExceptionTypes()),
                m.getName().equals("got") ? "[class java.lang.ArrayIndexOutOfBoundsException]" : "[]");
        }
        due("methods", got, want);
    }

    private static void checkFields() throws IllegalAccessException {
        Set<String> got = new TreeSet<>();
        for (Field f : SamplePacks.class.getDeclaredFields()) {
            if (!Modifier.isPrivate(f.getModifiers())) {
                due("modifiers of " + f.getName(), Modifier.toString(f.getModifiers()), "public static final");
                due("type of " + f.getName(), f.getType(), int.class);
                got.add(f.getName() + " " + f.getInt(null));
            }
        }
        due("constants", got, new TreeSet<>(Arrays.asList("NONE -1", "BAD -2", "NO -3", "FULL -4")));
    }

    private static void checkClasses() {
        due("modifiers of the class", Modifier.toString(SamplePacks.class.getModifiers()), "public final");
        Constructor<?>[] made = SamplePacks.class.getDeclaredConstructors();
        due("constructors", made.length, 1);
        due("the constructor", made[0].toString(), "public SamplePacks()");
        Class<?>[] inside = SamplePacks.class.getDeclaredClasses();
        due("more than twelve classes in all", inside.length > 11, false);
        for (Class<?> c : inside) {
            int mods = c.getModifiers();
            due(c + " is static", Modifier.isStatic(mods), true);
            due(c + " is public or protected", Modifier.isPublic(mods) || Modifier.isProtected(mods), false);
        }
    }

    public static void main(String[] args) throws IllegalAccessException {
        checkMethods();
        checkFields();
        checkClasses();
        System.out.println(wrong == 0 ? "the face is as due" : wrong + " things are not as due");
        if (wrong != 0) {
            System.exit(1);
        }
    }
}
