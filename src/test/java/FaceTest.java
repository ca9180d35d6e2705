import java.lang.reflect.Constructor;
import java.lang.reflect.Field;
import java.lang.reflect.Method;
import java.lang.reflect.Modifier;
import java.util.Arrays;
import java.util.Set;
import java.util.TreeSet;

/** The public face: exactly the document's constants, constructor and methods. */
final class FaceTest {
    private static final String[] METHODS = {
        "int add(int,int,int,int)", "int at(int,int)", "int mark()", "int back(int)", "int runs(int,int)",
        "int run(int,int,int)", "int feed(int)", "int query()", "int of(int,int)", "int row(int,int)",
        "int group(int,int,int)", "int edge(int,int,int)", "int two(int,int,int)", "int see(int,boolean)",
        "int bounds(int,int)", "long odds(int,int)", "long mean(int,int,int)", "int plan(int,int)",
        "int ends(int,int)", "int book(int,int)", "int looked()", "int judge(int,int,int)", "int image()",
        "int undo()", "int taken(int,int)", "int count(int)", "int tape(int,int,int)",
        "int item(int,int,long)", "long read(int,int)", "int shift(int,int,int,int,int)"
    };
    private static final String[] FIELDS = {"int NONE", "int BAD", "int STATE", "int FULL", "long NO"};

    public static void main(String[] args) {
        Due t = new Due("FaceTest");
        Class<?> face = RunColumns.class;
        t.due("public and final", Modifier.isPublic(face.getModifiers()) && Modifier.isFinal(face.getModifiers()));
        t.due("no package", face.getPackageName().isEmpty());
        t.due("methods", seenMethods(face).equals(new TreeSet<>(Arrays.asList(METHODS))));
        t.due("fields", seenFields(face).equals(new TreeSet<>(Arrays.asList(FIELDS))));
        Constructor<?>[] makers = face.getDeclaredConstructors();
        t.due("constructors", makers.length, 1);
        t.due("its parameters", makers[0].getParameterCount(), 0);
        t.due("it is public", Modifier.isPublic(makers[0].getModifiers()));
        t.due("no private namesake of a public method", !hasPrivateNamesake(face));
        for (Class<?> inside : face.getDeclaredClasses()) {
            int how = inside.getModifiers();
            t.due(inside.getName() + " is static and hidden",
                    Modifier.isStatic(how) && !Modifier.isPublic(how) && !Modifier.isProtected(how));
        }
        t.due("NONE", RunColumns.NONE, -1);
        t.due("BAD", RunColumns.BAD, -2);
        t.due("STATE", RunColumns.STATE, -3);
        t.due("FULL", RunColumns.FULL, -4);
        t.sentence("The constants: `NO = Long.MIN_VALUE`: There is no such number.");
        t.due("NO", RunColumns.NO, Long.MIN_VALUE);
        t.due("NO is answered", new RunColumns().read(0, 0), Long.MIN_VALUE);
        t.end();
    }

    private static Set<String> seenMethods(Class<?> face) {
        Set<String> seen = new TreeSet<>();
        for (Method m : face.getDeclaredMethods()) {
            if (Modifier.isPrivate(m.getModifiers())) {
                continue;
            }
            StringBuilder s = new StringBuilder(m.getReturnType() + " " + m.getName() + "(");
            for (int i = 0; i < m.getParameterCount(); i++) {
                s.append(i == 0 ? "" : ",").append(m.getParameterTypes()[i]);
            }
            String how = Modifier.isPublic(m.getModifiers()) && !Modifier.isStatic(m.getModifiers()) ? "" : "not public ";
            seen.add(how + s + ")");
        }
        return seen;
    }

    private static Set<String> seenFields(Class<?> face) {
        Set<String> seen = new TreeSet<>();
        for (Field f : face.getDeclaredFields()) {
            if (!Modifier.isPrivate(f.getModifiers())) {
                String how = f.getModifiers() == (Modifier.PUBLIC | Modifier.STATIC | Modifier.FINAL) ? "" : "other ";
                seen.add(how + f.getType() + " " + f.getName());
            }
        }
        return seen;
    }

    private static boolean hasPrivateNamesake(Class<?> face) {
        Set<String> names = new TreeSet<>();
        for (String m : METHODS) {
            names.add(m.substring(m.indexOf(' ') + 1, m.indexOf('(')));
        }
        for (Method m : face.getDeclaredMethods()) {
            if (Modifier.isPrivate(m.getModifiers()) && names.contains(m.getName())) {
                return true;
            }
        }
        for (Class<?> inside : face.getDeclaredClasses()) {
            for (Method m : inside.getDeclaredMethods()) {
                if (names.contains(m.getName())) {
                    return true;
                }
            }
        }
        return false;
    }
}
