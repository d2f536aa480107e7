import java.lang.reflect.Constructor;
import java.lang.reflect.Field;
import java.lang.reflect.Method;
import java.lang.reflect.Modifier;
import java.util.ArrayList;
import java.util.Collections;
import java.util.HashSet;
import java.util.List;
import java.util.Set;

/** The public face is that of the document, and nothing else can be seen from outside. */
public final class FaceTest {
    private static final String A = " IllegalArgumentException";
    private static final String I = " IndexOutOfBoundsException";
    private static final String S = " IllegalStateException";

    private static final String[] METHODS = {
        "int lookup 3" + A + I,
        "int makeDirectory 3" + A + I + S,
        "int makeFile 3" + A + I + S,
        "int link 4" + A + I + S,
        "int remove 3" + A + I + S,
        "void rename 5" + A + I + S,
        "int pass 1" + A,
        "int leases 1" + A,
        "int recalls 1" + A,
        "int known 1" + A,
        "int split 2" + A + I + S,
        "int merge 2" + A + I + S,
        "int fragments 1" + I,
        "int serverOf 2" + A + I,
        "int ownerOf 2" + A + I,
        "int load 1" + A,
        "void beginMove 3" + A + I + S,
        "int stepMove 0" + S,
        "int giveUpMove 0" + S,
        "boolean isFrozen 2" + A + I,
        "int balance 0" + S,
        "int links 1" + I,
        "int anchor 1" + I,
        "int byTree 2" + A + I,
        "int size 1" + I,
    };

    public static void main(String[] args) {
        Class<?> face = DirectoryServers.class;
        Script.due("modifiers of the class", Modifier.toString(face.getModifiers()), "public final");
        Script.due("above the class", "" + face.getSuperclass(), "" + Object.class);
        Script.due("interfaces", "" + face.getInterfaces().length, "0");
        constructors(face);
        methods(face);
        fieldsAndClasses(face);
        Script.end();
    }

    private static void constructors(Class<?> face) {
        Constructor<?>[] made = face.getDeclaredConstructors();
        Script.due("constructors", "" + made.length, "1");
        Script.due("constructor", made[0].toString(), "public DirectoryServers()");
    }

    private static void methods(Class<?> face) {
        List<String> seen = new ArrayList<>();
        Set<String> publicNames = new HashSet<>();
        for (Method method : face.getDeclaredMethods()) {
            if (!Modifier.isPrivate(method.getModifiers())) {
                publicNames.add(method.getName());
                seen.add(described(method));
            }
        }
        for (Method method : face.getDeclaredMethods()) {
            if (Modifier.isPrivate(method.getModifiers())) {
                Script.due("a private method with a public name: " + method.getName(),
                        "" + publicNames.contains(method.getName()), "false");
            }
        }
        List<String> want = new ArrayList<>(List.of(METHODS));
        Collections.sort(seen);
        Collections.sort(want);
        Script.due("the methods", "" + seen, "" + want);
    }

    private static String described(Method method) {
        StringBuilder text = new StringBuilder();
        text.append(method.getReturnType()).append(' ').append(method.getName());
        text.append(' ').append(method.getParameterCount());
        for (Class<?> thrown : method.getExceptionTypes()) {
            text.append(' ').append(thrown.getSimpleName());
        }
        for (Class<?> type : method.getParameterTypes()) {
            if (type != int.class) {
                text.append(" with a parameter of ").append(type);
            }
        }
        if (method.getModifiers() != Modifier.PUBLIC) {
            text.append(" is ").append(Modifier.toString(method.getModifiers()));
        }
        return text.toString();
    }

    private static void fieldsAndClasses(Class<?> face) {
        for (Field field : face.getDeclaredFields()) {
            Script.due("private field " + field.getName(),
                    "" + Modifier.isPrivate(field.getModifiers()), "true");
            Script.due("no static state " + field.getName(),
                    "" + (!Modifier.isStatic(field.getModifiers())
                            || Modifier.isFinal(field.getModifiers())), "true");
        }
        for (Class<?> inside : face.getDeclaredClasses()) {
            Script.due("static class " + inside.getName(),
                    "" + Modifier.isStatic(inside.getModifiers()), "true");
            Script.due("hidden class " + inside.getName(),
                    "" + ((inside.getModifiers() & (Modifier.PUBLIC | Modifier.PROTECTED)) == 0),
                    "true");
        }
    }
}
