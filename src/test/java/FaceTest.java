import java.lang.reflect.Constructor;
import java.lang.reflect.Field;
import java.lang.reflect.Method;
import java.lang.reflect.Modifier;
import java.util.ArrayList;
import java.util.Collections;
import java.util.List;
import java.util.Set;

/** "The public face" of the document, and what ../shared/LANGUAGE.md says of members (rules 1, 2, 5 and 11). */
public final class FaceTest {
    private static final String[] METHODS = {
        "int binder(int)", "int change(int,int)", "int changes()", "int conflict(int,int)", "int feed(int,long)",
        "int fits()", "int less(int,int)", "int mended(int,int)", "int node(int,int)", "int out(int)", "int read()",
        "int rule(int)", "int search(int)", "int set(int,int)", "int told(int)", "int type(int)",
        "int without(int,int)",
    };
    private static final String[] CONSTANTS = {"BAD", "FULL", "NO", "NONE", "STATE"};
    private static final Set<Class<?>> STATIC_TYPES = Set.of(
        int.class, long.class, boolean.class, char.class, String.class, int[].class, long[].class, char[].class, byte[].class);

    public static void main(String[] args) {
        Class<?> face = ConflictPlaces.class;
        due("the class is public and final", Modifier.toString(face.getModifiers()).equals("public final"));
        methods(face);
        constants(face);
        constructors(face);
        members(face);
        for (Class<?> inside : face.getDeclaredClasses()) {
            int is = inside.getModifiers();
            due(inside + " is static", Modifier.isStatic(is));
            due(inside + " is private or package-visible", !Modifier.isPublic(is) && !Modifier.isProtected(is));
            due(inside + " has no class inside", inside.getDeclaredClasses().length == 0);
            members(inside);
        }
        due("twelve classes at most", face.getDeclaredClasses().length < 12);
        Check.end();
    }

    private static void due(String what, boolean holds) {
        Check.due(what, holds ? 1 : 0, 1);
    }

    private static void methods(Class<?> face) {
        List<String> open = new ArrayList<>();
        for (Method method : face.getDeclaredMethods()) {
            if (!Modifier.isPrivate(method.getModifiers())) {
                due(method + " is public", Modifier.toString(method.getModifiers()).equals("public"));
                StringBuilder b = new StringBuilder();
                for (Class<?> parameter : method.getParameterTypes()) {
                    b.append(b.length() == 0 ? "" : ",").append(parameter);
                }
                open.add(method.getReturnType() + " " + method.getName() + "(" + b + ")");
            }
        }
        Collections.sort(open);
        Check.due("methods", open.toString(), List.of(METHODS).toString());
    }

    private static void constants(Class<?> face) {
        List<String> open = new ArrayList<>();
        for (Field field : face.getDeclaredFields()) {
            if (!Modifier.isPrivate(field.getModifiers())) {
                String is = Modifier.toString(field.getModifiers()) + " " + field.getType();
                Check.due(field.getName(), is, "public static final int");
                open.add(field.getName());
            }
        }
        Collections.sort(open);
        Check.due("constants", open.toString(), List.of(CONSTANTS).toString());
    }

    private static void constructors(Class<?> face) {
        Constructor<?>[] all = face.getDeclaredConstructors();
        Check.due("constructors", all.length, 1);
        due("it is public", Modifier.isPublic(all[0].getModifiers()));
        Check.due("its parameters", all[0].getParameterCount(), 0);
    }

    private static void members(Class<?> of) {
        int fields = 0;
        for (Field field : of.getDeclaredFields()) {
            if (Modifier.isStatic(field.getModifiers())) {
                due(field + " is final", Modifier.isFinal(field.getModifiers()));
                due(field + " is of a type that a static one can have", STATIC_TYPES.contains(field.getType()));
            } else {
                fields++;
            }
        }
        due(of + " has some twenty fields at most", fields <= 20);
        for (Method method : of.getDeclaredMethods()) {
            due(method + " has seven parameters at most", method.getParameterCount() <= 7);
            boolean isPrivate = Modifier.isPrivate(method.getModifiers());
            due(method + " bears no name of a public one", !isPrivate || !isOfTheFace(method.getName()));
        }
    }

    private static boolean isOfTheFace(String name) {
        for (String method : METHODS) {
            if (method.startsWith("int " + name + "(")) {
                return true;
            }
        }
        return false;
    }
}
