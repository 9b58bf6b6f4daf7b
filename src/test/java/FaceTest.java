import java.lang.reflect.Constructor;
import java.lang.reflect.Field;
import java.lang.reflect.Method;
import java.lang.reflect.Modifier;
import java.util.Arrays;
import java.util.HashSet;
import java.util.Set;
import java.util.TreeSet;

/** The face is the document's and nothing more (LANGUAGE.md, rule 1). */
public final class FaceTest {
    private static final String[] METHODS = {
        "plank int int", "sawyer int int", "of int int", "at int int", "type int", "read", "count int", "hours int",
        "set int int", "sharpen int int", "soak int int", "drift int", "undo", "seed int", "left int int",
        "ahead int int int", "then int", "falls int", "noon", "best int", "most int int", "sharp int int", "without int",
        "thickest int int", "hops int int int", "image", "restore", "dust int int int int int int int",
        "film int int int int int", "sheet int int int", "drop int", "item int int int long", "copy int int int int int"};
    private static final String[] CONSTANTS = {"BAD=-1", "NOT=-2", "FULL=-3", "NONE=-4", "NULL=-11", "CAST=-12", "INDEX=-13",
        "SIZE=-14"};

    public static void main(String[] args) throws Exception {
        Class<?> face = NoonSaws.class;
        Set<String> methods = new TreeSet<>(), constants = new TreeSet<>(), names = new HashSet<>();
        int hidden = 0;
        for (Method m : face.getDeclaredMethods()) {
            if (Modifier.isPrivate(m.getModifiers())) continue;
            StringBuilder b = new StringBuilder(m.getName());
            for (Class<?> t : m.getParameterTypes()) b.append(' ').append(t.getName());
            methods.add(b.toString());
            names.add(m.getName());
            Check.due(b + " is public, answers an int and throws nothing",
                Modifier.isPublic(m.getModifiers()) && !Modifier.isStatic(m.getModifiers())
                    && m.getReturnType() == int.class && m.getExceptionTypes().length == 0 ? 1 : 0, 1);
        }
        for (Field f : face.getDeclaredFields()) {
            if (Modifier.isPrivate(f.getModifiers())) continue;
            constants.add(f.getName() + "=" + (Modifier.isStatic(f.getModifiers()) ? f.get(null) : "?"));
        }
        due("methods", methods, METHODS);
        due("constants", constants, CONSTANTS);
        for (Constructor<?> c : face.getDeclaredConstructors()) {
            Check.due(c.toString(), Modifier.isPublic(c.getModifiers()) ? c.getParameterCount() : 99, 0);
        }
        Check.due("final", Modifier.isFinal(face.getModifiers()) ? 1 : 0, 1);
        for (Class<?> c : face.getDeclaredClasses()) {
            int how = c.getModifiers();
            Check.due(c + " is hidden and static",
                !Modifier.isPublic(how) && !Modifier.isProtected(how) && Modifier.isStatic(how) ? 1 : 0, 1);
            hidden += clashes(c, names);
        }
        Check.due("private methods that bear a public one's name", hidden + clashes(face, names), 0);
        Check.end();
    }

    private static int clashes(Class<?> c, Set<String> names) {
        int n = 0;
        for (Method m : c.getDeclaredMethods()) {
            if (!Modifier.isPublic(m.getModifiers()) && names.contains(m.getName())) n++;
        }
        return n;
    }

    private static void due(String what, Set<String> got, String[] want) {
        Set<String> due = new TreeSet<>(Arrays.asList(want));
        if (!got.equals(due)) Check.due(what + " " + got + " instead of " + due, 0, 1);
    }
}
