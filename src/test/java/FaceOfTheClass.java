import java.io.IOException;
import java.lang.reflect.Constructor;
import java.lang.reflect.Field;
import java.lang.reflect.Method;
import java.lang.reflect.Modifier;
import java.nio.charset.StandardCharsets;
import java.nio.file.Files;
import java.nio.file.Path;
import java.util.StringJoiner;
import java.util.TreeSet;
import java.util.regex.Matcher;
import java.util.regex.Pattern;

/** The class has the face that the document writes out, word for word, and no other member that can be seen. */
public final class FaceOfTheClass {
    private static final Path DOCUMENT = Path.of("../shared/DOC.md");
    private static final Pattern FACE = Pattern.compile("```java\\s+(public [^{]*)\\{(.*?)\\}\\s*```", Pattern.DOTALL);

    public static void main(String[] args) throws IOException, IllegalAccessException {
        Matcher face = FACE.matcher(Files.readString(DOCUMENT, StandardCharsets.UTF_8));
        boolean isThere = face.find();
        Check.due("the document tells the face", isThere, true);
        if (isThere) {
            Check.due("the class", Modifier.toString(SearchMill.class.getModifiers()) + " class SearchMill",
                face.group(1).trim());
            members(face.group(2));
        }
        inside();
        Check.end();
    }

    private static void members(String text) throws IllegalAccessException {
        TreeSet<String> due = new TreeSet<>();
        for (String line : text.split(";")) {
            if (!line.isBlank()) {
                // What the parameters are called can't be seen from outside.
                due.add(line.trim().replaceAll("(\\w+) \\w+(?=[^(]*\\))", "$1"));
            }
        }
        TreeSet<String> got = new TreeSet<>();
        for (Field field : SearchMill.class.getDeclaredFields()) {
            if (isSeen(field.getModifiers())) {
                got.add(headOf(field.getModifiers(), field.getType()) + field.getName() + " = " + field.getInt(null));
            }
        }
        for (Constructor<?> one : SearchMill.class.getDeclaredConstructors()) {
            if (isSeen(one.getModifiers())) {
                got.add(Modifier.toString(one.getModifiers()) + " SearchMill"
                    + tailOf(one.getParameterTypes(), one.getExceptionTypes()));
            }
        }
        for (Method method : SearchMill.class.getDeclaredMethods()) {
            if (isSeen(method.getModifiers()) && !method.isSynthetic()) {
                got.add(headOf(method.getModifiers(), method.getReturnType()) + method.getName()
                    + tailOf(method.getParameterTypes(), method.getExceptionTypes()));
            }
        }
        TreeSet<String> missing = new TreeSet<>(due);
        missing.removeAll(got);
        Check.due("members that are not there", missing.toString(), "[]");
        got.removeAll(due);
        Check.due("members that the document does not tell", got.toString(), "[]");
    }

    private static boolean isSeen(int modifiers) {
        return !Modifier.isPrivate(modifiers);
    }

    private static String headOf(int modifiers, Class<?> type) {
        return Modifier.toString(modifiers) + " " + type.getSimpleName() + " ";
    }

    private static String tailOf(Class<?>[] parameters, Class<?>[] thrown) {
        StringJoiner types = new StringJoiner(", ", "(", ")");
        for (Class<?> parameter : parameters) {
            types.add(parameter.getSimpleName());
        }
        StringJoiner exceptions = new StringJoiner(", ", " throws ", "");
        exceptions.setEmptyValue("");
        for (Class<?> kind : thrown) {
            exceptions.add(kind.getSimpleName());
        }
        return types.toString() + exceptions;
    }

    /** The classes inside are not for others, and none of their methods bears a name of the face. */
    private static void inside() {
        TreeSet<String> names = new TreeSet<>();
        for (Method method : SearchMill.class.getDeclaredMethods()) {
            if (Modifier.isPublic(method.getModifiers())) {
                names.add(method.getName());
            }
        }
        for (Method method : SearchMill.class.getDeclaredMethods()) {
            Check.due("a private method named " + method.getName(),
                !Modifier.isPublic(method.getModifiers()) && names.contains(method.getName()), false);
        }
        for (Class<?> one : SearchMill.class.getDeclaredClasses()) {
            int modifiers = one.getModifiers();
            Check.due(one.getName() + " is static and not for others", Modifier.isStatic(modifiers)
                && !Modifier.isPublic(modifiers) && !Modifier.isProtected(modifiers), true);
            for (Method method : one.getDeclaredMethods()) {
                Check.due(one.getName() + "." + method.getName() + " bears a name of the face",
                    names.contains(method.getName()), false);
            }
        }
    }
}
