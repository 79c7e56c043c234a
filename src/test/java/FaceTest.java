import java.lang.reflect.Constructor;
import java.lang.reflect.Field;
import java.lang.reflect.Method;
import java.lang.reflect.Modifier;
import java.nio.file.Files;
import java.nio.file.Path;
import java.util.ArrayList;
import java.util.List;
import java.util.TreeSet;

/** The public face is that of the document, and has no member more. */
public final class FaceTest {
    private FaceTest() {
    }

    public static void main(String[] args) throws Exception {
        TreeSet<String> due = new TreeSet<>();
        for (String line : face()) {
            String text = line.strip();
            if (text.startsWith("public") && text.endsWith(";")) {
                due.add(plain(text));
            }
        }
        Expect.same("face", due, members());
        Expect.same("final", true, Modifier.isFinal(VectorVersions.class.getModifiers()));
        Expect.same("number of members of the document", 57, due.size());
        for (Class<?> inside : VectorVersions.class.getDeclaredClasses()) {
            Expect.same(inside + " is not public", false, Modifier.isPublic(inside.getModifiers()));
            Expect.same(inside + " is static", true, Modifier.isStatic(inside.getModifiers()));
        }
        Expect.finish("FaceTest");
    }

    private static List<String> face() throws Exception {
        String document = Files.readString(Path.of("../shared/DOC.md"));
        int start = document.indexOf("```java") + 7;
        return document.substring(start, document.indexOf("```", start)).lines().toList();
    }

    /** "public static final int NONE = -1;" and "public int get(int version) throws X;" without names of parameters. */
    private static String plain(String line) {
        String text = line.substring(0, line.length() - 1);
        if (!text.contains("(")) {
            return text;
        }
        int open = text.indexOf('(');
        int close = text.indexOf(')');
        List<String> types = new ArrayList<>();
        for (String parameter : text.substring(open + 1, close).split(",")) {
            if (!parameter.isBlank()) {
                types.add(parameter.strip().split(" ")[0]);
            }
        }
        return text.substring(0, open) + types + text.substring(close + 1);
    }

    private static TreeSet<String> members() throws Exception {
        TreeSet<String> found = new TreeSet<>();
        for (Field field : VectorVersions.class.getDeclaredFields()) {
            if (!Modifier.isPrivate(field.getModifiers())) {
                found.add(Modifier.toString(field.getModifiers()) + " " + field.getType()
                    + " " + field.getName() + " = " + field.get(null));
            }
        }
        for (Constructor<?> constructor : VectorVersions.class.getDeclaredConstructors()) {
            if (!Modifier.isPrivate(constructor.getModifiers())) {
                found.add("public " + constructor.getName() + names(constructor.getParameterTypes()));
            }
        }
        for (Method method : VectorVersions.class.getDeclaredMethods()) {
            if (!Modifier.isPrivate(method.getModifiers()) && !method.isSynthetic()) {
                found.add(Modifier.toString(method.getModifiers()) + " " + method.getReturnType() + " "
                    + method.getName() + names(method.getParameterTypes()) + thrown(method));
            }
        }
        return found;
    }

    private static String thrown(Method method) {
        List<String> names = names(method.getExceptionTypes());
        return names.isEmpty() ? "" : " throws " + String.join(", ", names);
    }

    private static List<String> names(Class<?>[] types) {
        List<String> names = new ArrayList<>();
        for (Class<?> type : types) {
            names.add(type.getSimpleName());
        }
        return names;
    }
}
