import java.lang.reflect.Constructor;
import java.lang.reflect.Field;
import java.lang.reflect.Method;
import java.lang.reflect.Modifier;
import java.util.Set;
import java.util.TreeSet;

/** The public face is the document's, and nothing besides it can be seen from outside. */
public final class FaceTest {
    private static final Set<String> FACE = Set.of(
        "int NONE", "int RETURNED", "int THROWN", "int BROKEN",
        "AdviceLinks()",
        "int advise(int,int,int,int,int)", "boolean when(int,int,int)", "boolean reorder(int,int)",
        "boolean remove(int)", "void freeze(boolean)", "boolean plan(int,int,int,int)",
        "boolean fail(int,int,int,int)", "boolean calls(int,int,int)", "boolean source(int)",
        "int invoke(int,int)", "int result()", "int events()", "int who(int)", "int what(int)",
        "int asked()", "int taken()", "int chain(int,int)");

    public static void main(String[] args) {
        Due due = new Due();
        Class<AdviceLinks> face = AdviceLinks.class;
        due.yes("the class is public and final",
            Modifier.isPublic(face.getModifiers()) && Modifier.isFinal(face.getModifiers()));
        Set<String> seen = visibleMembers(face);
        for (String member : FACE) {
            due.yes("the face has " + member, seen.contains(member));
        }
        for (String member : seen) {
            due.yes("the document has " + member, FACE.contains(member));
        }
        looksAtNestedClasses(due, face);
        looksAtNames(due, face);
        due.is("NONE", AdviceLinks.NONE, -1);
        due.is("RETURNED", AdviceLinks.RETURNED, 0);
        due.is("THROWN", AdviceLinks.THROWN, 1);
        due.is("BROKEN", AdviceLinks.BROKEN, 2);
        due.end();
    }

    private static Set<String> visibleMembers(Class<?> face) {
        Set<String> seen = new TreeSet<>();
        for (Field field : face.getDeclaredFields()) {
            if (!Modifier.isPrivate(field.getModifiers())) {
                seen.add(field.getType() + " " + field.getName());
            }
        }
        for (Constructor<?> constructor : face.getDeclaredConstructors()) {
            if (!Modifier.isPrivate(constructor.getModifiers())) {
                seen.add(face.getName() + parameters(constructor.getParameterTypes()));
            }
        }
        for (Method method : face.getDeclaredMethods()) {
            if (!Modifier.isPrivate(method.getModifiers())) {
                seen.add(method.getReturnType() + " " + method.getName() + parameters(method.getParameterTypes()));
            }
        }
        return seen;
    }

    private static String parameters(Class<?>[] types) {
        StringBuilder text = new StringBuilder("(");
        for (int i = 0; i < types.length; i++) {
            text.append(i == 0 ? "" : ",").append(types[i]);
        }
        return text.append(")").toString();
    }

    private static void looksAtNestedClasses(Due due, Class<?> face) {
        for (Class<?> nested : face.getDeclaredClasses()) {
            int modifiers = nested.getModifiers();
            due.yes(nested.getName() + " is static", Modifier.isStatic(modifiers));
            due.no(nested.getName() + " is public or protected",
                Modifier.isPublic(modifiers) || Modifier.isProtected(modifiers));
        }
    }

    private static void looksAtNames(Due due, Class<?> face) {
        Set<String> names = new TreeSet<>();
        for (Method method : face.getMethods()) {
            names.add(method.getName());
        }
        for (Method method : face.getDeclaredMethods()) {
            if (Modifier.isPrivate(method.getModifiers())) {
                due.no("private " + method.getName() + " bears a public name", names.contains(method.getName()));
            }
        }
    }
}
