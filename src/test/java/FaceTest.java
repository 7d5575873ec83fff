import java.lang.reflect.Constructor;
import java.lang.reflect.Field;
import java.lang.reflect.Method;
import java.lang.reflect.Modifier;
import java.util.Arrays;
import java.util.Set;
import java.util.TreeSet;

/** The class shows the face of the document, and nothing beside it (LANGUAGE.md, 1, 2 and 11). */
public final class FaceTest {
    private static final Set<String> METHODS = new TreeSet<>(Arrays.asList(
            "kind(int)", "field(int,int,int)", "input(int)", "bound(int)",
            "rule(int,int,int,int)", "clear()", "about(int)", "many()", "kept()",
            "choice(int,int)", "object(int,int,int)", "put(int)", "empty()", "rank()",
            "step(int,int,int,int,int)", "erase()", "ends()", "end(int,int)", "look(int,int)",
            "endOf(int)"));
    private static final Set<String> CONSTANTS =
            new TreeSet<>(Arrays.asList("NONE", "UNKNOWN", "OUTSIDE", "STATE", "ROOM"));

    private static String signature(Method method) {
        StringBuilder text = new StringBuilder(method.getName()).append('(');
        for (Class<?> type : method.getParameterTypes()) {
            text.append(text.charAt(text.length() - 1) == '(' ? "" : ",").append(type.getName());
        }
        return text.append(')').toString();
    }

    private static void lookAtClass(Checks checks, Class<?> type, Set<String> publicNames) {
        for (Field field : type.getDeclaredFields()) {
            if (Modifier.isStatic(field.getModifiers())) {
                checks.holds(field + " is final", Modifier.isFinal(field.getModifiers()));
            }
        }
        for (Method method : type.getDeclaredMethods()) {
            checks.holds(method + " takes few parameters", method.getParameterCount() <= 7);
            if (type != LazyHeaps.class) {
                checks.holds(method + " has a name of its own",
                        !publicNames.contains(method.getName()));
            }
        }
    }

    public static void main(String[] args) {
        Checks checks = new Checks();
        Class<?> face = LazyHeaps.class;
        checks.holds("public and final", Modifier.isPublic(face.getModifiers())
                && Modifier.isFinal(face.getModifiers()));
        checks.holds("no package", face.getPackageName().isEmpty());

        Set<String> methods = new TreeSet<>();
        Set<String> names = new TreeSet<>();
        for (Method method : face.getDeclaredMethods()) {
            if (!Modifier.isPrivate(method.getModifiers())) {
                methods.add(signature(method));
                names.add(method.getName());
                checks.holds(method + " answers int", method.getReturnType() == int.class);
                checks.holds(method + " is public", Modifier.isPublic(method.getModifiers()));
                checks.holds(method + " is no static", !Modifier.isStatic(method.getModifiers()));
            }
        }
        checks.holds("the methods are " + methods, methods.equals(METHODS));
        for (Method method : face.getDeclaredMethods()) {
            checks.holds(method + " has a name of its own",
                    !Modifier.isPrivate(method.getModifiers()) || !names.contains(method.getName()));
        }

        Set<String> constants = new TreeSet<>();
        for (Field field : face.getDeclaredFields()) {
            if (!Modifier.isPrivate(field.getModifiers())) {
                constants.add(field.getName());
            }
        }
        checks.holds("the constants are " + constants, constants.equals(CONSTANTS));
        checks.due("NONE", LazyHeaps.NONE, -1);
        checks.due("UNKNOWN", LazyHeaps.UNKNOWN, -101);
        checks.due("OUTSIDE", LazyHeaps.OUTSIDE, -102);
        checks.due("STATE", LazyHeaps.STATE, -103);
        checks.due("ROOM", LazyHeaps.ROOM, -104);

        Constructor<?>[] constructors = face.getDeclaredConstructors();
        checks.due("constructors", constructors.length, 1);
        checks.holds("the constructor is public and takes nothing",
                constructors[0].getParameterCount() == 0
                        && Modifier.isPublic(constructors[0].getModifiers()));

        lookAtClass(checks, face, names);
        checks.holds("some twelve classes", face.getDeclaredClasses().length <= 11);
        for (Class<?> inside : face.getDeclaredClasses()) {
            int modifiers = inside.getModifiers();
            checks.holds(inside + " is static", Modifier.isStatic(modifiers));
            checks.holds(inside + " is not shown",
                    !Modifier.isPublic(modifiers) && !Modifier.isProtected(modifiers));
            lookAtClass(checks, inside, names);
        }
        checks.finish("FaceTest");
    }
}
