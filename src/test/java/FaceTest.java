import java.lang.reflect.Constructor;
import java.lang.reflect.Field;
import java.lang.reflect.Method;
import java.lang.reflect.Modifier;
import java.nio.file.Files;
import java.nio.file.Path;
import java.util.Set;
import java.util.TreeSet;
import java.util.regex.Matcher;
import java.util.regex.Pattern;

/** The public face is that of the document, and the source keeps to the rules of the language that can be seen by words. */
public final class FaceTest {
    private static final String FACE = "int status(); long top(); long bottom(); boolean tray(int,int,int); "
        + "boolean write(int,int,long); long read(int,int); boolean pour(int,int,int,int,int); int feed(int,int,int,int,int); "
        + "int shelf(int); int weeks(int); int fault(int); int many(int); int rule(int,int); int odd(int); int book(int,int); "
        + "int page(int,int); int finale(int,int); int hint(int,int); int offer(int,int); int watch(int,int); "
        + "int copyFinale(int,int); boolean bind(int,int); int loose(int); boolean call(int,boolean); "
        + "boolean strange(int,int); boolean close(int,boolean); boolean lead(int,int,int); long endings(int); "
        + "int hopeless(); int best(int); int bestAt(int,int); int next(int); boolean chance(int,int,int); int may(int,int); "
        + "int isEnding(int,int,int); int fits(int,int); int finalesOf(int); int booksOf(int); int oddness(int); int match(); "
        + "long ways(); int clash(); int clashSet(); int finish(); int finishSet(); int liars(int); int liarSet(int); "
        + "int known(int); int buy(int); int buySet(int); int cheapest(); int guard(int); int guardSet(int); int barest(); "
        + "int live(int); int lived(int); boolean mean(int,int); int mark(); int back();";

    public static void main(String[] args) throws Exception {
        face();
        words();
        Checks.end();
    }

    private static void face() {
        Set<String> due = new TreeSet<>();
        Set<String> names = new TreeSet<>();
        for (String one : FACE.split("; ?")) {
            due.add(one);
            names.add(one.replaceAll(".* |\\(.*", ""));
        }
        Set<String> got = new TreeSet<>();
        for (Method m : LastPages.class.getDeclaredMethods()) {
            if (Modifier.isPublic(m.getModifiers())) {
                StringBuilder one = new StringBuilder(m.getReturnType() + " " + m.getName() + "(");
                for (Class<?> p : m.getParameterTypes()) {
                    one.append(one.charAt(one.length() - 1) == '(' ? "" : ",").append(p);
                }
                got.add(one.append(")").toString());
            } else {
                Checks.due("private: " + m.getName(), Modifier.isPrivate(m.getModifiers()), true);
                Checks.due("named like a public one: " + m.getName(), names.contains(m.getName()), false);
            }
        }
        Checks.due("public methods missing or too many: " + got + " " + due, got.equals(due), true);
        for (Field f : LastPages.class.getDeclaredFields()) {
            boolean isNone = f.getName().equals("NONE");
            Checks.due("field " + f.getName(), isNone ? Modifier.isPublic(f.getModifiers()) : Modifier.isPrivate(f.getModifiers()), true);
            Checks.due("static is final: " + f.getName(), !Modifier.isStatic(f.getModifiers()) || Modifier.isFinal(f.getModifiers()), true);
        }
        for (Constructor<?> c : LastPages.class.getDeclaredConstructors()) {
            Checks.due("constructor", c.getParameterCount() == 0 && Modifier.isPublic(c.getModifiers()), true);
        }
        Checks.due("final", Modifier.isFinal(LastPages.class.getModifiers()), true);
        Checks.due("at most twelve classes", LastPages.class.getDeclaredClasses().length + 1 <= 12, true);
        for (Class<?> inside : LastPages.class.getDeclaredClasses()) {
            Checks.due("static: " + inside, Modifier.isStatic(inside.getModifiers()), true);
            Checks.due("private: " + inside, Modifier.isPrivate(inside.getModifiers()), true);
            Checks.due("some twenty fields: " + inside, inside.getDeclaredFields().length <= 20, true);
            for (Method m : inside.getDeclaredMethods()) {
                Checks.due("at most seven parameters: " + m, m.getParameterCount() <= 7, true);
                Checks.due("named like a public one: " + m, names.contains(m.getName()), false);
            }
        }
    }

    private static void words() throws Exception {
        String source = Files.readString(Path.of("src/main/java/LastPages.java"));
        String code = source.replaceAll("(?s)/\\*.*?\\*/", "").replaceAll("//[^\n]*", "").replaceAll("\"[^\"\n]*\"", "\"\"");
        String[] never = {"throw", "throws", "try", "catch", "synchronized", "assert", "double", "float", "package", "native",
            "volatile", "transient", "protected", "Object", "System\\.out", "System\\.err", "System\\.nanoTime",
            "Random", "Thread", "\\w+Exact", "->", "::", "\\[\\]\\[\\]", "@\\w+"};
        for (String word : never) {
            Matcher m = Pattern.compile(word.matches("\\w.*") ? "\\b" + word + "\\b" : word).matcher(code);
            Checks.due("no " + word + " in the source", m.find(), false);
        }
        Matcher imports = Pattern.compile("import [^;]*;").matcher(code);
        while (imports.find()) {
            Checks.due(imports.group(), imports.group().equals("import java.util.Arrays;"), true);
        }
        Checks.due("signs 10 and 32 to 126 alone", source.matches("[\\n -~]*"), true);
    }
}
