import java.lang.reflect.Constructor;
import java.lang.reflect.Field;
import java.lang.reflect.Method;
import java.lang.reflect.Modifier;
import java.util.Set;
import java.util.TreeSet;

/** The class shows the document's face and nothing else. */
public final class FaceTest {
    private static final Set<String> FACE = Set.of(
        "boolean key(int)", "boolean back()", "void wipe()", "int length()", "int typed(int)", "int learn(int)",
        "boolean forget(int)", "int words()", "int letter(int,int)", "int count(int)", "int rank()",
        "int distance(int)", "int near(int)", "int suggest(int,int)", "int complete(int)", "int edit(int,int)",
        "int drops(int)");

    private static int wrong = 0;

    public static void main(String[] args) {
        Class<?> desk = SpellDesk.class;
        check(Modifier.isPublic(desk.getModifiers()) && Modifier.isFinal(desk.getModifiers()), "the class is public and final");
        check(desk.getSuperclass() == Object.class && desk.getInterfaces().length == 0, "the class extends nothing");
        methods(desk);
        constructors(desk);
        for (Field field : desk.getDeclaredFields()) {
            check(Modifier.isPrivate(field.getModifiers()), "private: " + field);
        }
        for (Class<?> inside : desk.getDeclaredClasses()) {
            check(Modifier.isStatic(inside.getModifiers()) && !Modifier.isPublic(inside.getModifiers())
                && !Modifier.isProtected(inside.getModifiers()), "static and not shown: " + inside);
        }
        System.out.println(wrong == 0 ? "the face is as due" : wrong + " parts of the face are not as due");
        if (wrong != 0) {
            System.exit(1);
        }
    }

    private static void methods(Class<?> desk) {
        Set<String> shown = new TreeSet<>();
        Set<String> shownNames = new TreeSet<>();
        for (Method method : desk.getDeclaredMethods()) {
            if (!Modifier.isPrivate(method.getModifiers())) {
                check(method.getModifiers() == Modifier.PUBLIC, "public and nothing else: " + method);
                shown.add(written(method));
                shownNames.add(method.getName());
            }
        }
        check(shown.equals(FACE), "the methods are those of the document, but they are " + shown);
        for (Method method : desk.getDeclaredMethods()) {
            check(!Modifier.isPrivate(method.getModifiers()) || !shownNames.contains(method.getName()),
                "no private method bears the name of a public one: " + method);
        }
    }

    private static void constructors(Class<?> desk) {
        Constructor<?>[] all = desk.getDeclaredConstructors();
        check(all.length == 1 && all[0].getParameterCount() == 0 && Modifier.isPublic(all[0].getModifiers()),
            "one public constructor without parameters");
    }

    private static String written(Method method) {
        StringBuilder text = new StringBuilder();
        text.append(method.getReturnType().getName()).append(' ').append(method.getName()).append('(');
        Class<?>[] parameters = method.getParameterTypes();
        for (int i = 0; i < parameters.length; i++) {
            text.append(i == 0 ? "" : ",").append(parameters[i].getName());
        }
        return text.append(')').toString();
    }

    private static void check(boolean holds, String rule) {
        if (!holds) {
            wrong++;
            System.out.println("does not hold: " + rule);
        }
    }
}
