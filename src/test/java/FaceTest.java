import java.lang.reflect.Constructor;
import java.lang.reflect.Field;
import java.lang.reflect.Method;
import java.lang.reflect.Modifier;
import java.util.ArrayList;
import java.util.Arrays;
import java.util.List;
import java.util.TreeSet;

/** Promise 1 and the public face: what the document lists is there, and no more. */
public final class FaceTest {
    private static final String[] METHODS = {
        "int feed(int,int,int,int,int)", "int cut(int)", "int stream(int)", "int query()", "int fault()", "int value(long)",
        "int nothing()", "int row(int,long)", "boolean back(int,int)", "int watermark(long)", "int changes()",
        "int change(int)", "long changed(int,int)", "boolean changedNull(int,int)", "int rows()", "long at(int,int)",
        "boolean isNull(int,int)", "int type(int)", "int three(int,int,int)", "int told(int)",
    };

    public static void main(String[] args) {
        methods();
        others();
        classes();
        Probe.end("FaceTest");
    }

    private static String shape(Method m) {
        List<String> types = new ArrayList<>();
        for (Class<?> c : m.getParameterTypes()) {
            types.add(c.getName());
        }
        return m.getReturnType().getName() + " " + m.getName() + "(" + String.join(",", types) + ")";
    }

    private static void methods() {
        TreeSet<String> found = new TreeSet<>();
        TreeSet<String> names = new TreeSet<>();
        for (Method m : StreamQueries.class.getDeclaredMethods()) {
            if (Modifier.isPublic(m.getModifiers())) {
                found.add(shape(m));
                names.add(m.getName());
                Probe.due(m.getName() + " is no static one", Modifier.isStatic(m.getModifiers()), false);
            }
        }
        Probe.due("public methods", found.toString(), new TreeSet<>(Arrays.asList(METHODS)).toString());
        for (Method m : StreamQueries.class.getDeclaredMethods()) {
            boolean isFace = Modifier.isPublic(m.getModifiers());
            Probe.due(m.getName() + " is public or private", isFace || Modifier.isPrivate(m.getModifiers()), true);
            Probe.due(m.getName() + " is no second one of a public name", !isFace && names.contains(m.getName()), false);
        }
    }

    private static void others() {
        int modifiers = StreamQueries.class.getModifiers();
        Probe.due("the class is public", Modifier.isPublic(modifiers), true);
        Probe.due("the class is final", Modifier.isFinal(modifiers), true);
        Constructor<?>[] made = StreamQueries.class.getDeclaredConstructors();
        Probe.due("constructors", made.length, 1);
        Probe.due("the constructor is public", Modifier.isPublic(made[0].getModifiers()), true);
        Probe.due("the constructor takes nothing", made[0].getParameterCount(), 0);
        for (Field f : StreamQueries.class.getDeclaredFields()) {
            boolean isNone = f.getName().equals("NONE");
            Probe.due(f.getName() + " is private", Modifier.isPrivate(f.getModifiers()), !isNone);
            if (Modifier.isStatic(f.getModifiers())) {
                Probe.due(f.getName() + " is final", Modifier.isFinal(f.getModifiers()), true);
            }
        }
        Probe.due("NONE", StreamQueries.NONE, -1);
    }

    private static void classes() {
        TreeSet<String> face = new TreeSet<>();
        for (String m : METHODS) {
            face.add(m.substring(m.indexOf(' ') + 1, m.indexOf('(')));
        }
        Class<?>[] inside = StreamQueries.class.getDeclaredClasses();
        Probe.due("no more than twelve classes", inside.length + 1 <= 12, true);
        fewFields(StreamQueries.class);
        for (Class<?> c : inside) {
            fewFields(c);
            Probe.due(c.getName() + " is static", Modifier.isStatic(c.getModifiers()), true);
            Probe.due(c.getName() + " is public", Modifier.isPublic(c.getModifiers()), false);
            for (Method m : c.getDeclaredMethods()) {
                Probe.due(c.getName() + "." + m.getName() + " bears a public name", face.contains(m.getName()), false);
                Probe.due(c.getName() + "." + m.getName() + " has seven parameters at most", m.getParameterCount() <= 7, true);
            }
        }
    }

    private static void fewFields(Class<?> c) {
        int count = 0;
        for (Field f : c.getDeclaredFields()) {
            count += Modifier.isStatic(f.getModifiers()) ? 0 : 1;
        }
        Probe.due(c.getName() + " has no more than twenty fields", count <= 20, true);
    }
}
