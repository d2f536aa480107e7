import java.io.IOException;
import java.lang.reflect.Constructor;
import java.lang.reflect.Field;
import java.lang.reflect.Method;
import java.lang.reflect.Modifier;
import java.nio.file.Files;
import java.nio.file.Path;
import java.util.ArrayList;
import java.util.HashMap;
import java.util.List;
import java.util.Map;
import java.util.Set;
import java.util.regex.Matcher;
import java.util.regex.Pattern;

/**
 * The public face is that which is written out in the document, and nothing else can be seen from
 * outside. It is run in the directory of the project.
 */
public final class FaceTest {
    private static final Pattern LINE =
            Pattern.compile("    public (?:(\\w+) )?(\\w+)\\((.*?)\\)(?: throws (.*))?;");

    // In the order of the document's face, which is that of its promises.
    private static final String[] TITLES = {
        "1 the class and its constructor have the face of the document, and nothing beside",
        "2 lookup has the face of the document",
        "3 makeDirectory has the face of the document",
        "4 makeFile has the face of the document",
        "5 link has the face of the document",
        "6 remove has the face of the document",
        "7 rename has the face of the document",
        "8 pass has the face of the document",
        "9 leases has the face of the document",
        "10 recalls has the face of the document",
        "11 known has the face of the document",
        "12 split has the face of the document",
        "13 merge has the face of the document",
        "14 fragments has the face of the document",
        "15 serverOf has the face of the document",
        "16 ownerOf has the face of the document",
        "17 load has the face of the document",
        "18 beginMove has the face of the document",
        "19 stepMove has the face of the document",
        "20 giveUpMove has the face of the document",
        "21 isFrozen has the face of the document",
        "22 balance has the face of the document",
        "23 links has the face of the document",
        "24 anchor has the face of the document",
        "25 byTree has the face of the document",
        "26 size has the face of the document",
    };

    public static void main(String[] args) throws IOException {
        Class<?> face = DirectoryServers.class;
        theClass(face);
        List<Matcher> lines = faceOfTheDocument();
        Script.due("lines of the document's face", "" + lines.size(), "" + TITLES.length);
        Map<String, Method> methods = visibleMethods(face);
        Script.due(TITLES[0] + ": methods", "" + methods.size(), "" + (TITLES.length - 1));
        for (int i = 1; i < TITLES.length && i < lines.size(); i++) {
            String name = TITLES[i].split(" ")[1];
            Method method = methods.get(name);
            Script.due(TITLES[i], method == null ? "none" : described(method),
                    written(lines.get(i)));
            Script.due(TITLES[i] + ": its line", lines.get(i).group(2), name);
        }
        privateNames(face, methods.keySet());
        fieldsAndClasses(face);
        Script.end();
    }

    private static List<Matcher> faceOfTheDocument() throws IOException {
        List<Matcher> lines = new ArrayList<>();
        for (String line : Files.readAllLines(Path.of("../shared/DOC.md"))) {
            Matcher matcher = LINE.matcher(line);
            if (matcher.matches()) {
                lines.add(matcher);
            }
        }
        return lines;
    }

    /** The line without the names of its parameters. */
    private static String written(Matcher line) {
        String parameters = line.group(3).replaceAll("(\\w+) \\w+", "$1");
        String thrown = line.group(4) == null ? "" : line.group(4);
        return "public " + line.group(1) + " " + line.group(2) + "(" + parameters + ") " + thrown;
    }

    private static String described(Method method) {
        return Modifier.toString(method.getModifiers()) + " " + method.getReturnType() + " "
                + method.getName() + "(" + names(method.getParameterTypes()) + ") "
                + names(method.getExceptionTypes());
    }

    private static String names(Class<?>[] types) {
        List<String> names = new ArrayList<>();
        for (Class<?> type : types) {
            names.add(type.getSimpleName());
        }
        return String.join(", ", names);
    }

    private static void theClass(Class<?> face) {
        String title = TITLES[0];
        Script.due(title + ": modifiers", Modifier.toString(face.getModifiers()), "public final");
        Script.due(title + ": above it", "" + face.getSuperclass(), "" + Object.class);
        Script.due(title + ": interfaces", "" + face.getInterfaces().length, "0");
        Script.due(title + ": package", face.getPackageName(), "");
        Constructor<?>[] made = face.getDeclaredConstructors();
        Script.due(title + ": constructors", "" + made.length, "1");
        Script.due(title + ": constructor", made[0].toString(), "public DirectoryServers()");
    }

    private static Map<String, Method> visibleMethods(Class<?> face) {
        Map<String, Method> methods = new HashMap<>();
        for (Method method : face.getDeclaredMethods()) {
            if (!Modifier.isPrivate(method.getModifiers())) {
                Script.due(TITLES[0] + ": one method only is named " + method.getName(),
                        "" + methods.put(method.getName(), method), "null");
            }
        }
        return methods;
    }

    private static void privateNames(Class<?> face, Set<String> visible) {
        for (Method method : face.getDeclaredMethods()) {
            if (Modifier.isPrivate(method.getModifiers())) {
                Script.due("a private method with a public name: " + method.getName(),
                        "" + visible.contains(method.getName()), "false");
            }
        }
    }

    private static void fieldsAndClasses(Class<?> face) {
        for (Field field : face.getDeclaredFields()) {
            Script.due(TITLES[0] + ": private field " + field.getName(),
                    "" + Modifier.isPrivate(field.getModifiers()), "true");
            Script.due("no static state " + field.getName(),
                    "" + (!Modifier.isStatic(field.getModifiers())
                            || Modifier.isFinal(field.getModifiers())), "true");
        }
        for (Class<?> inside : face.getDeclaredClasses()) {
            Script.due("static class " + inside.getName(),
                    "" + Modifier.isStatic(inside.getModifiers()), "true");
            Script.due(TITLES[0] + ": hidden class " + inside.getName(),
                    "" + ((inside.getModifiers() & (Modifier.PUBLIC | Modifier.PROTECTED)) == 0),
                    "true");
        }
    }
}
