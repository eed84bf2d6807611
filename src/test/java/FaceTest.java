import java.lang.reflect.Constructor;
import java.lang.reflect.Field;
import java.lang.reflect.Method;
import java.lang.reflect.Modifier;
import java.nio.file.Files;
import java.nio.file.Path;
import java.util.ArrayList;
import java.util.List;
import java.util.Set;
import java.util.TreeSet;

/** The class bears the document's face and nothing else, and its file holds nothing that LANGUAGE.md leaves out. */
public final class FaceTest {
    private static final String[] FACE = {"int lesson(int,int,int)", "int child(int,int)", "int set(int,int,int)",
        "int told(int,int)", "int give(int,int,int)", "int given(int,int)", "int feed(int)", "int text()", "int force(int)",
        "int has(int,int)", "int heard(int,int,int)", "int points(int)", "int best(int)", "int lay()", "int run(int,int,int)",
        "int twice(int,int)", "int change(int,int)", "int exam(int,int)", "int aboard(int,int,int)", "int together(int)",
        "int known(int)", "int drawn(int,int)", "long chance(int,int,int,int,int)", "int image()", "int back()",
        "int count(int)", "int sheet(int,int,int)", "int cell(int,int,int)", "int copy(int,int,int,int,int)",
        "int children(int,int,int,int)", "int taken(int,int)", "int NONE", "int BAD", "int STATE", "int FULL", "long NO"};
    private static int wrong = 0;

    private static void must(boolean holds, String what) {
        if (!holds) {
            wrong++;
            System.out.println(what);
        }
    }

    public static void main(String[] args) throws Exception {
        face();
        nested();
        source();
        System.out.println(wrong == 0 ? "the face is as due" : wrong + " things are not as due");
        if (wrong != 0) {
            System.exit(1);
        }
    }

    private static void face() {
        Class<?> c = SchoolOnRaft.class;
        must(Modifier.isPublic(c.getModifiers()) && Modifier.isFinal(c.getModifiers()), "not public final");
        must(c.getPackageName().isEmpty(), "a package");
        Constructor<?>[] made = c.getDeclaredConstructors();
        must(made.length == 1 && made[0].getParameterCount() == 0 && Modifier.isPublic(made[0].getModifiers()), "constructors");
        Set<String> seen = new TreeSet<>();
        Set<String> names = new TreeSet<>();
        for (Method m : c.getDeclaredMethods()) {
            if (Modifier.isPublic(m.getModifiers())) {
                List<String> types = new ArrayList<>();
                for (Class<?> type : m.getParameterTypes()) {
                    types.add(type.getName());
                }
                seen.add(m.getReturnType().getName() + " " + m.getName() + "(" + String.join(",", types) + ")");
                names.add(m.getName());
            } else {
                must(Modifier.isPrivate(m.getModifiers()), "neither public nor private: " + m);
            }
        }
        for (Method m : c.getDeclaredMethods()) {
            must(Modifier.isPublic(m.getModifiers()) || !names.contains(m.getName()), "bears a public name: " + m);
        }
        for (Field f : c.getDeclaredFields()) {
            if (Modifier.isPublic(f.getModifiers())) {
                must(Modifier.isStatic(f.getModifiers()) && Modifier.isFinal(f.getModifiers()), "no constant: " + f);
                seen.add(f.getType().getName() + " " + f.getName());
            } else {
                must(Modifier.isPrivate(f.getModifiers()), "neither public nor private: " + f);
            }
        }
        must(seen.equals(new TreeSet<>(List.of(FACE))), "the face is " + seen);
    }

    private static void nested() {
        Class<?>[] classes = SchoolOnRaft.class.getDeclaredClasses();
        must(classes.length <= 11, "classes: " + (classes.length + 1));
        for (Class<?> c : classes) {
            must(Modifier.isStatic(c.getModifiers()), "not static: " + c);
            must(!Modifier.isPublic(c.getModifiers()) && !Modifier.isProtected(c.getModifiers()), "too open: " + c);
            must(c.getDeclaredFields().length <= 40, "fields of " + c);
            for (Field f : c.getDeclaredFields()) {
                must(!Modifier.isStatic(f.getModifiers()) || Modifier.isFinal(f.getModifiers()), "static state: " + f);
            }
            for (Method m : c.getDeclaredMethods()) {
                must(m.getParameterCount() <= 7, "parameters of " + m);
            }
        }
    }

    private static void source() throws Exception {
        String text = Files.readString(Path.of("src/main/java/SchoolOnRaft.java"));
        String code = text.replaceAll("(?s)/\\*.*?\\*/", "").replaceAll("//[^\n]*", "").replaceAll("\"[^\"\n]*\"", "\"\"");
        for (String word : new String[] {"throw", "throws", "try", "catch", "finally", "synchronized", "assert", "package",
            "protected", "yield", "var", "Object", "Exception", "Error", "System\\.(?!arraycopy)\\w+", "\\w+Exact", "equals",
            "hashCode", "toString", "double", "float"}) {
            must(!java.util.regex.Pattern.compile("\\b" + word + "\\b").matcher(code).find(), "the file has " + word);
        }
        for (String sign : new String[] {"->", "::", "@"}) {
            must(!code.contains(sign), "the file has " + sign);
        }
        for (String line : code.split("\n")) {
            must(!line.startsWith("import") || line.equals("import java.util.Arrays;"), line);
        }
        must(text.chars().allMatch(sign -> sign < 128), "a sign above 127");
    }
}
