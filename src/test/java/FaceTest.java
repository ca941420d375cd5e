import java.lang.reflect.Constructor;
import java.lang.reflect.Field;
import java.lang.reflect.Method;
import java.lang.reflect.Modifier;
import java.nio.file.Files;
import java.nio.file.Path;
import java.util.Set;
import java.util.TreeSet;

/** The public face is the one under "The public face" in the document, and nothing else can be seen of the class. */
public final class FaceTest {
    private static final Set<String> NAMES = new TreeSet<>();

    public static void main(String[] args) throws Exception {
        methods(told());
        fields();
        constructors();
        classesInside();
        Checks.end();
    }

    /** The methods that the document tells, each as "type name(type,type)". */
    private static Set<String> told() throws Exception {
        String doc = Files.readString(Path.of("../shared/DOC.md"));
        int from = doc.indexOf("public LastPages();") + "public LastPages();".length();
        Set<String> told = new TreeSet<>();
        for (String line : doc.substring(from, doc.indexOf('}', from)).strip().split("\n")) {
            String one = line.strip().replaceAll("^public |;$", "").replaceAll(" \\w+(?=[,)])", "").replace(", ", ",");
            told.add(one);
            NAMES.add(one.replaceAll(".* |\\(.*", ""));
        }
        Checks.due("methods in the document", told.size(), 59);
        return told;
    }

    private static void methods(Set<String> told) {
        Set<String> got = new TreeSet<>();
        for (Method m : LastPages.class.getDeclaredMethods()) {
            if (Modifier.isPublic(m.getModifiers())) {
                got.add(m.getReturnType() + " " + m.getName() + "(" + types(m) + ")");
                Checks.due("static: " + m, Modifier.isStatic(m.getModifiers()), false);
            } else {
                hidden(m);
            }
        }
        Checks.same("public methods", got.toString(), told.toString());
    }

    private static String types(Method m) {
        StringBuilder types = new StringBuilder();
        for (Class<?> type : m.getParameterTypes()) {
            types.append(types.length() == 0 ? "" : ",").append(type);
        }
        return types.toString();
    }

    private static void hidden(Method m) {
        Checks.due("private: " + m.getName(), Modifier.isPrivate(m.getModifiers()), true);
        Checks.due("named like a public one: " + m.getName(), NAMES.contains(m.getName()), false);
    }

    private static void fields() {
        for (Field f : LastPages.class.getDeclaredFields()) {
            boolean isNone = f.getName().equals("NONE");
            Checks.due("field " + f.getName(), isNone ? f.getModifiers() == (Modifier.PUBLIC | Modifier.STATIC | Modifier.FINAL)
                && f.getType() == int.class : Modifier.isPrivate(f.getModifiers()), true);
        }
        Checks.due("NONE", LastPages.NONE, -1);
    }

    private static void constructors() {
        Checks.due("constructors", LastPages.class.getDeclaredConstructors().length, 1);
        for (Constructor<?> c : LastPages.class.getDeclaredConstructors()) {
            Checks.due("constructor", c.getParameterCount() == 0 && Modifier.isPublic(c.getModifiers()), true);
        }
        Checks.due("public and final", LastPages.class.getModifiers(), Modifier.PUBLIC | Modifier.FINAL);
        Checks.due("no package", LastPages.class.getPackageName().isEmpty(), true);
    }

    private static void classesInside() {
        for (Class<?> inside : LastPages.class.getDeclaredClasses()) {
            Checks.due("private: " + inside, Modifier.isPrivate(inside.getModifiers()), true);
            for (Method m : inside.getDeclaredMethods()) {
                Checks.due("named like a public one: " + m, NAMES.contains(m.getName()), false);
            }
        }
    }
}
