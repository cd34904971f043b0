import java.io.IOException;
import java.lang.reflect.Constructor;
import java.lang.reflect.Field;
import java.lang.reflect.Method;
import java.lang.reflect.Modifier;
import java.nio.file.Files;
import java.nio.file.Path;
import java.util.ArrayList;
import java.util.HashSet;
import java.util.List;
import java.util.Set;
import java.util.TreeSet;
import java.util.regex.Matcher;
import java.util.regex.Pattern;

/** The face is that of the document, and the source keeps to those rules of LANGUAGE.md that can be seen from outside. */
public final class FaceTest {
    private static final String[] FORBIDDEN = {"->", "::", "Exact(", "finally", "synchronized", "assert ", "System.out",
        "getMessage", "catch", " float ", " double ", "Object", "HashMap", "Random", "Optional", "stream", "String.format",
        "hashCode", "String toString", "Integer.MAX", "@Override", "static {", "\" +", "+ \"", "\\u"};

    public static void main(String[] args) throws IOException {
        Path project = Path.of(System.getProperty("project", "."));
        String document = Files.readString(project.resolve("../shared/DOC.md"));
        String source = Files.readString(project.resolve("src/main/java/Vatcompiler.java"));
        face(document);
        members();
        names();
        words(source);
        lengths(source);
        Checks.end("FaceTest");
    }

    private static void face(String document) {
        String face = document.substring(document.indexOf("```java"), document.indexOf("```", document.indexOf("```java") + 7));
        Matcher matcher = Pattern.compile("public (\\w+) (\\w+)\\(([^)]*)\\)( throws ([^;]*))?;").matcher(face);
        Set<String> due = new TreeSet<>();
        while (matcher.find()) {
            String types = matcher.group(3).replaceAll(" \\w+(,|$)", "$1");
            String thrown = matcher.group(5) == null ? "" : matcher.group(5);
            due.add(matcher.group(1) + " " + matcher.group(2) + "(" + types + ") " + thrown);
        }
        Set<String> got = new TreeSet<>();
        for (Method method : Vatcompiler.class.getDeclaredMethods()) {
            if (Modifier.isPublic(method.getModifiers())) {
                got.add(written(method));
            }
        }
        Checks.same("the face's methods", got, due);
        Checks.same("how many", due.size(), 27);
        Checks.same("public and final", Modifier.toString(Vatcompiler.class.getModifiers()), "public final");
        Checks.same("constructors", Vatcompiler.class.getDeclaredConstructors().length, 1);
    }

    private static String written(Method method) {
        List<String> types = new ArrayList<>();
        for (Class<?> type : method.getParameterTypes()) {
            types.add(type.getSimpleName());
        }
        List<String> thrown = new ArrayList<>();
        for (Class<?> type : method.getExceptionTypes()) {
            thrown.add(type.getSimpleName());
        }
        return method.getReturnType().getSimpleName() + " " + method.getName() + "(" + String.join(", ", types) + ") "
            + String.join(", ", thrown);
    }

    private static void members() {
        for (Field field : Vatcompiler.class.getDeclaredFields()) {
            Checks.same(field.getName() + " is private", Modifier.isPrivate(field.getModifiers()), true);
        }
        for (Method method : Vatcompiler.class.getDeclaredMethods()) {
            int modifiers = method.getModifiers();
            Checks.same(method.getName() + " is private or public",
                Modifier.isPrivate(modifiers) || Modifier.isPublic(modifiers), true);
        }
        Checks.same("at most twelve classes", Vatcompiler.class.getDeclaredClasses().length <= 11, true);
        for (Class<?> inside : classes()) {
            int fields = 0;
            for (Field field : inside.getDeclaredFields()) {
                boolean isStatic = Modifier.isStatic(field.getModifiers());
                fields += isStatic ? 0 : 1;
                Checks.same(field.getName() + " is final, if static", !isStatic || Modifier.isFinal(field.getModifiers()), true);
            }
            Checks.same(inside.getSimpleName() + " has at most twenty fields", fields <= 20, true);
        }
    }

    private static List<Class<?>> classes() {
        List<Class<?>> all = new ArrayList<>(List.of(Vatcompiler.class.getDeclaredClasses()));
        all.add(Vatcompiler.class);
        return all;
    }

    private static void names() {
        Set<String> face = new HashSet<>();
        for (Method method : Vatcompiler.class.getDeclaredMethods()) {
            if (Modifier.isPublic(method.getModifiers())) {
                face.add(method.getName());
            }
        }
        for (Class<?> inside : classes()) {
            for (Method method : inside.getDeclaredMethods()) {
                boolean isFace = inside == Vatcompiler.class && Modifier.isPublic(method.getModifiers());
                Checks.same(method.getName() + " bears a name of the face", !isFace && face.contains(method.getName()), false);
                Checks.same(method.getName() + " has at most seven parameters", method.getParameterCount() <= 7, true);
            }
            for (Constructor<?> constructor : inside.getDeclaredConstructors()) {
                Checks.same("a constructor has at most seven parameters", constructor.getParameterCount() <= 7, true);
            }
        }
    }

    private static void words(String source) {
        for (String word : FORBIDDEN) {
            Checks.same("the source holds " + word, source.contains(word), false);
        }
        Matcher imports = Pattern.compile("import ([\\w.]+);").matcher(source);
        while (imports.find()) {
            Checks.same("import " + imports.group(1), imports.group(1).matches("java\\.util\\.(ArrayList|List|Arrays)"), true);
        }
        Matcher thrown = Pattern.compile("throw ([^;]*);").matcher(source);
        while (thrown.find()) {
            Checks.same("throw " + thrown.group(1), thrown.group(1).matches(
                "new (IllegalArgument|IllegalState|IndexOutOfBounds)Exception\\(\"[^\"]*\"\\)"), true);
        }
        for (int k = 0; k < source.length(); k++) {
            if (source.charAt(k) > 126) {
                Checks.fault("a sign above 126 at " + k);
            }
        }
    }

    private static void lengths(String source) {
        int begun = 0;
        String[] lines = source.split("\n");
        for (int k = 0; k < lines.length; k++) {
            if (lines[k].matches("( {4}| {8})(public|private) .*\\(.*")) {
                begun = k;
            }
            if (lines[k].matches("( {4}| {8})}") && begun > 0 && k - begun > 60) {
                Checks.fault("a method of more than 60 lines ends at line " + (k + 1));
            }
        }
    }
}
