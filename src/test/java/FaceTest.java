import java.lang.reflect.Constructor;
import java.lang.reflect.Field;
import java.lang.reflect.Method;
import java.lang.reflect.Modifier;
import java.util.Arrays;
import java.util.Set;
import java.util.TreeSet;

/** The public face is that of the document, and no more. */
public final class FaceTest {
    public static void main(String[] args) {
        Class<?> face = TokenMesh.class;
        Check.due("public and final", Modifier.isPublic(face.getModifiers()) && Modifier.isFinal(face.getModifiers()), true);
        Set<String> due = new TreeSet<>(Arrays.asList(
                "int issue(int,boolean,int,int)", "int tick(int)", "int deliver(int)", "boolean evict(int,int)",
                "int letters()", "int letter(int)", "int tokens(int,int)", "int data(int,int)", "int knows(int,int)",
                "int row(int)", "int state(int)", "int ended(int)", "int result(int)", "int memory(int)"));
        Set<String> seen = new TreeSet<>();
        for (Method m : face.getDeclaredMethods()) {
            if (Modifier.isPrivate(m.getModifiers())) {
                continue;
            }
            Check.due(m + " is public", Modifier.isPublic(m.getModifiers()), true);
            Check.due(m + " is not static", Modifier.isStatic(m.getModifiers()), false);
            seen.add(m.getReturnType() + " " + m.getName() + types(m.getParameterTypes()));
        }
        Check.due("methods " + seen, seen.equals(due), true);
        for (Field f : face.getDeclaredFields()) {
            Check.due(f + " is private", Modifier.isPrivate(f.getModifiers()), true);
        }
        Constructor<?>[] made = face.getDeclaredConstructors();
        Check.due("constructors", made.length, 1);
        Check.due("its types", types(made[0].getParameterTypes()).equals("(int,int,int)"), true);
        Check.due("it is public", Modifier.isPublic(made[0].getModifiers()), true);
        Check.finish();
    }

    private static String types(Class<?>[] of) {
        StringBuilder text = new StringBuilder("(");
        for (int i = 0; i < of.length; i++) {
            text.append(i == 0 ? "" : ",").append(of[i]);
        }
        return text.append(")").toString();
    }
}
