import java.lang.reflect.Constructor;
import java.lang.reflect.Field;
import java.lang.reflect.Method;
import java.lang.reflect.Modifier;
import java.nio.file.Files;
import java.nio.file.Path;
import java.util.ArrayList;
import java.util.HashSet;
import java.util.List;
import java.util.Set;
import java.util.TreeSet;
import java.util.regex.Matcher;
import java.util.regex.Pattern;

/** The class has the document's face and no more, and keeps to rules that can be seen from outside. */
public final class FaceTest {
    public static void main(String[] args) throws Exception {
        Class<PassLink> face = PassLink.class;
        Check.is("public final", Modifier.isPublic(face.getModifiers()) && Modifier.isFinal(face.getModifiers()), true);
        methodsAreTheDocuments(face);
        onlyNoneIsOpen(face);
        constructorIsPlain(face);
        noPrivateNameIsPublic(face);
        Check.is("NONE", PassLink.NONE, -1);
        Check.end();
    }

    private static void methodsAreTheDocuments(Class<?> face) throws Exception {
        Set<String> due = new TreeSet<>();
        Pattern line = Pattern.compile("    public (int|boolean|void) (\\w+)\\(([^)]*)\\)(?: throws ([^;]*))?;");
        for (String text : Files.readAllLines(Path.of("../shared/DOC.md"))) {
            Matcher matcher = line.matcher(text);
            if (matcher.matches()) {
                due.add(matcher.group(1) + " " + matcher.group(2) + " "
                        + typesOf(matcher.group(3)) + " " + (matcher.group(4) == null ? "" : matcher.group(4)));
            }
        }
        Set<String> got = new TreeSet<>();
        for (Method method : face.getDeclaredMethods()) {
            if (!Modifier.isPrivate(method.getModifiers())) {
                got.add(method.getReturnType() + " " + method.getName() + " "
                        + names(method.getParameterTypes()) + " " + names(method.getExceptionTypes()));
            }
        }
        Check.is("methods", got, due);
        Check.is("number of methods", got.size(), 62);
    }

    private static String typesOf(String parameters) {
        List<String> types = new ArrayList<>();
        for (String parameter : parameters.split(", ")) {
            if (!parameter.isEmpty()) {
                types.add(parameter.split(" ")[0]);
            }
        }
        return String.join(", ", types);
    }

    private static String names(Class<?>[] classes) {
        List<String> names = new ArrayList<>();
        for (Class<?> one : classes) {
            names.add(one.getSimpleName());
        }
        return String.join(", ", names);
    }

    private static void onlyNoneIsOpen(Class<?> face) {
        for (Field field : face.getDeclaredFields()) {
            if (!Modifier.isPrivate(field.getModifiers())) {
                Check.is("an open field", field.toString(), "public static final int PassLink.NONE");
            }
            if (Modifier.isStatic(field.getModifiers())) {
                Check.is("a static field is final: " + field, Modifier.isFinal(field.getModifiers()), true);
            }
        }
    }

    private static void constructorIsPlain(Class<?> face) {
        Constructor<?>[] constructors = face.getDeclaredConstructors();
        Check.is("constructors", constructors.length, 1);
        Check.is("constructor", constructors[0].toString(), "public PassLink()");
    }

    private static void noPrivateNameIsPublic(Class<?> face) {
        Set<String> open = new HashSet<>();
        for (Method method : face.getMethods()) {
            if (method.getDeclaringClass() == face) {
                open.add(method.getName());
            }
        }
        List<Class<?>> all = new ArrayList<>(List.of(face.getDeclaredClasses()));
        all.add(face);
        for (Class<?> one : all) {
            for (Method method : one.getDeclaredMethods()) {
                boolean public_ = one == face && Modifier.isPublic(method.getModifiers());
                Check.is(method + " has a name of its own", public_ || !open.contains(method.getName()), true);
            }
        }
    }
}
