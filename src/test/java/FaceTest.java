import java.lang.reflect.Constructor;
import java.lang.reflect.Field;
import java.lang.reflect.Method;
import java.lang.reflect.Modifier;
import java.util.Arrays;
import java.util.HashSet;
import java.util.Set;
import java.util.TreeSet;

/** The public face is the document's, and nothing else shows. */
public final class FaceTest {
    private static final String[] FACE = {
        "tree III", "ladder III", "of II", "at II", "rule II", "type I", "orchard ", "count I",
        "days I", "lean II", "shake I", "drift I", "undo ", "seed I",
        "ahead II", "fruit II", "reached II", "gathered ", "plan II", "round III", "longer II", "larger II", "luck III",
        "image ", "restore ",
        "left IIIII", "film IIIII", "sheet III", "drop I", "item IIIJ", "copy IIIII",
    };

    public static void main(String[] args) throws Exception {
        Class<?> face = OrchardLadders.class;
        Check.due("public final", face.getModifiers() & (Modifier.PUBLIC | Modifier.FINAL), Modifier.PUBLIC | Modifier.FINAL);
        methods(face);
        fields(face);
        Constructor<?>[] made = face.getDeclaredConstructors();
        Check.due("constructors", made.length, 1);
        Check.holds("the constructor is public and takes nothing",
            Modifier.isPublic(made[0].getModifiers()) && made[0].getParameterCount() == 0);
        for (Class<?> inside : face.getDeclaredClasses()) {
            Check.holds(inside + " is static", Modifier.isStatic(inside.getModifiers()));
            Check.holds(inside + " does not show", (inside.getModifiers() & (Modifier.PUBLIC | Modifier.PROTECTED)) == 0);
        }
        Check.end();
    }

    private static void methods(Class<?> face) {
        Set<String> seen = new TreeSet<>();
        Set<String> names = new HashSet<>();
        for (Method m : face.getDeclaredMethods()) {
            if (!Modifier.isPrivate(m.getModifiers())) {
                Check.holds(m + " is public, no static", Modifier.isPublic(m.getModifiers()) && !Modifier.isStatic(m.getModifiers()));
                Check.holds(m + " answers an int", m.getReturnType() == int.class);
                StringBuilder row = new StringBuilder(m.getName()).append(' ');
                for (Class<?> type : m.getParameterTypes()) {
                    row.append(type == int.class ? 'I' : type == long.class ? 'J' : '?');
                }
                seen.add(row.toString());
                names.add(m.getName());
            }
        }
        Check.holds("methods " + seen, seen.equals(new TreeSet<>(Arrays.asList(FACE))));
        for (Method m : face.getDeclaredMethods()) {
            Check.holds(m + " bears no public name", !Modifier.isPrivate(m.getModifiers()) || !names.contains(m.getName()));
        }
    }

    private static void fields(Class<?> face) throws Exception {
        String[] names = {"BAD", "NOT", "FULL", "NONE", "NULL", "CAST", "INDEX", "SIZE"};
        int[] values = {-1, -2, -3, -4, -11, -12, -13, -14};
        int shown = 0;
        for (Field f : face.getDeclaredFields()) {
            shown += Modifier.isPrivate(f.getModifiers()) ? 0 : 1;
            Check.holds(f + " is no static state", !Modifier.isStatic(f.getModifiers()) || Modifier.isFinal(f.getModifiers()));
        }
        Check.due("constants", shown, names.length);
        for (int i = 0; i < names.length; i++) {
            Field f = face.getField(names[i]);
            Check.holds(f + " is a constant int", f.getType() == int.class && Modifier.isFinal(f.getModifiers()));
            Check.due(names[i], f.getInt(null), values[i]);
        }
    }
}
