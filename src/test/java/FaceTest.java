import java.lang.reflect.Constructor;
import java.lang.reflect.Field;
import java.lang.reflect.Method;
import java.lang.reflect.Modifier;
import java.util.HashSet;
import java.util.Set;
import java.util.TreeSet;

/** The public face, as the document prints it, and nothing beside it. */
public final class FaceTest {
    private static final String INDEX = "IndexOutOfBoundsException";
    private static final String ARGUMENT = "IllegalArgumentException";
    private static final String STATE = "IllegalStateException";

    private static final String[] METHODS = {
        "void wall(int int) " + INDEX + " " + STATE,
        "int clear(int) " + INDEX,
        "void open(int int) " + INDEX + " " + ARGUMENT + " " + STATE,
        "int particle(int int) " + INDEX + " " + ARGUMENT + " " + STATE,
        "int ink(int) " + INDEX,
        "int probe(int) " + INDEX + " " + STATE,
        "int fault(int int) " + INDEX + " " + ARGUMENT,
        "int bring(int int int) " + INDEX + " " + ARGUMENT + " " + STATE,
        "int step(int) " + ARGUMENT + " " + STATE,
        "int back(int) " + ARGUMENT + " " + STATE,
        "long flow(int) " + ARGUMENT,
        "int cellOf(int int) " + INDEX + " " + ARGUMENT,
        "int bodyOf(int int) " + INDEX + " " + ARGUMENT,
        "long sum(int) " + ARGUMENT,
        "long left(boolean)",
        "long average(boolean int int int int int) " + ARGUMENT,
        "long scatter(boolean int int int int int) " + ARGUMENT,
        "float likeness(int int int int) " + ARGUMENT,
        "int ahead(int int) " + INDEX + " " + ARGUMENT,
        "int aheadAnew(int int) " + INDEX + " " + ARGUMENT,
        "long mixed(int) " + ARGUMENT,
        "int record(int int) " + INDEX,
        "int beat(int) " + INDEX,
        "int better(int int) " + INDEX + " " + ARGUMENT,
    };

    public static void main(String[] args) {
        Due.is("NONE", -1, () -> Eddyhall.NONE);
        Due.is("FREE", 0, () -> Eddyhall.FREE);
        Due.is("WALL", 1, () -> Eddyhall.WALL);
        Due.is("INLET", 2, () -> Eddyhall.INLET);
        Due.is("OUTLET", 3, () -> Eddyhall.OUTLET);
        theClass();
        theMethods();
        theFields();
        theClassesInside();
        Due.end();
    }

    private static void theClass() {
        int is = Eddyhall.class.getModifiers();
        Due.is("the class is public and final", 1, () -> Modifier.isPublic(is) && Modifier.isFinal(is) ? 1 : 0);
        Constructor<?>[] all = Eddyhall.class.getDeclaredConstructors();
        Due.is("one constructor", 1, () -> all.length);
        Due.is("it is public, without arguments", 1,
                () -> Modifier.isPublic(all[0].getModifiers()) && all[0].getParameterCount() == 0 ? 1 : 0);
        for (Class<?> inner : Eddyhall.class.getDeclaredClasses()) {
            int how = inner.getModifiers();
            Due.is(inner + " is static and not public", 1,
                    () -> Modifier.isStatic(how) && !Modifier.isPublic(how) && !Modifier.isProtected(how) ? 1 : 0);
        }
    }

    private static void theMethods() {
        Set<String> want = new TreeSet<>();
        Set<String> names = new HashSet<>();
        for (String method : METHODS) {
            want.add(method);
            names.add(method.substring(method.indexOf(' ') + 1, method.indexOf('(')));
        }
        for (Method method : Eddyhall.class.getDeclaredMethods()) {
            if (Modifier.isPrivate(method.getModifiers())) {
                if (names.contains(method.getName())) {
                    Due.tell("a private method bears a public name: " + method);
                }
            } else if (!Modifier.isPublic(method.getModifiers()) || !want.remove(textOf(method))) {
                Due.tell("not of the face: " + textOf(method));
            }
        }
        for (String method : want) {
            Due.tell("missing: " + method);
        }
        for (Class<?> inner : Eddyhall.class.getDeclaredClasses()) {
            for (Method method : inner.getDeclaredMethods()) {
                if (names.contains(method.getName())) {
                    Due.tell("a method inside bears a public name: " + method);
                }
            }
        }
    }

    private static String textOf(Method method) {
        StringBuilder text = new StringBuilder();
        text.append(method.getReturnType().getSimpleName()).append(' ').append(method.getName()).append('(');
        String between = "";
        for (Class<?> type : method.getParameterTypes()) {
            text.append(between).append(type.getSimpleName());
            between = " ";
        }
        text.append(')');
        for (Class<?> type : method.getExceptionTypes()) {
            text.append(' ').append(type.getSimpleName());
        }
        return text.toString();
    }

    private static void theFields() {
        Set<String> constants = new HashSet<>(Set.of("NONE", "FREE", "WALL", "INLET", "OUTLET"));
        for (Field field : Eddyhall.class.getDeclaredFields()) {
            int how = field.getModifiers();
            if (constants.remove(field.getName())) {
                if (!Modifier.isPublic(how) || !Modifier.isStatic(how) || !Modifier.isFinal(how)) {
                    Due.tell("not a public constant: " + field);
                }
            } else if (!Modifier.isPrivate(how)) {
                Due.tell("not private: " + field);
            } else if (Modifier.isStatic(how) && !Modifier.isFinal(how)) {
                Due.tell("static, but not final: " + field);
            }
        }
        Due.is("missing constants", 0, constants::size);
    }

    private static void theClassesInside() {
        Set<String> types = new HashSet<>(Set.of("int", "long", "boolean", "int[]", "int[][]", "byte[][]"));
        for (Class<?> inner : Eddyhall.class.getDeclaredClasses()) {
            types.add(inner.getSimpleName());
        }
        fieldsOf(Eddyhall.class, types);
        for (Class<?> inner : Eddyhall.class.getDeclaredClasses()) {
            fieldsOf(inner, types);
            for (Field field : inner.getDeclaredFields()) {
                if (Modifier.isStatic(field.getModifiers())) {
                    Due.tell("static inside: " + field);
                }
            }
        }
    }

    private static void fieldsOf(Class<?> owner, Set<String> types) {
        int many = 0;
        for (Field field : owner.getDeclaredFields()) {
            many += Modifier.isStatic(field.getModifiers()) ? 0 : 1;
            if (!types.contains(field.getType().getSimpleName())) {
                Due.tell("a field of another type: " + field);
            }
        }
        int fields = many;
        Due.is("at most twenty fields in " + owner, 1, () -> fields <= 20 ? 1 : 0);
    }
}
