import java.lang.reflect.Constructor;
import java.lang.reflect.Field;
import java.lang.reflect.Method;
import java.lang.reflect.Modifier;
import java.util.ArrayList;
import java.util.List;
import java.util.TreeSet;
import java.util.regex.Matcher;
import java.util.regex.Pattern;

/** The class has the document's face, and no member beyond it that another class may see. */
public final class FaceTest {
    private static final String[] FACE = {
        "int cells(int)", "int chip(int)", "int set(int,int,int)", "int chance(int,int)", "int mask(int)",
        "int maskBy(int,int)", "int row(int)", "int distance()", "int codeword(int)", "int mended(int)",
        "int clear(int)", "int enrol(int,int)", "int reading(int,int)",
        "long fail(int,int) IllegalArgumentException IllegalStateException", "long all()", "int lasts(int,int)",
        "int guess(int)", "long weight(int,boolean) IllegalArgumentException", "int leak()", "int even(int,int)",
        "int expected()", "int pair(int,int)", "int planes()", "int plane(int)", "int foretold(int)", "int next()",
        "int check(int,int)", "int whose(int)", "int sure(int)", "int apart()", "int odd(int)", "int count(int)",
    };

    private static final Pattern DOCUMENTED =
        Pattern.compile("(?m)^ {4}public (\\w+ \\w+)\\((.*?)\\)( throws (.*))?;$");

    public static void main(String[] args) {
        Due due = new Due();
        due.same("public and final", Modifier.PUBLIC | Modifier.FINAL, NoiseKeys.class.getModifiers());
        due.same("the document's face", documented().toString(), new TreeSet<>(List.of(FACE)).toString());
        due.same("methods", new TreeSet<>(List.of(FACE)).toString(), methods().toString());
        due.same("constructors", "[1 of 0 parameters]", constructors().toString());
        due.same("fields that are not private", "[]", openFields().toString());
        due.same("classes inside that are not private and static", "[]", otherClasses().toString());
        due.same("methods that are not public and bear the name of a public one", "[]", namesakes().toString());
        due.end();
    }

    /** From the document's own text; the face above if the document is not there. */
    private static TreeSet<String> documented() {
        TreeSet<String> found = new TreeSet<>();
        Matcher call = DOCUMENTED.matcher(Document.face());
        while (call.find()) {
            String types = call.group(2).replaceAll("(\\w+) \\w+", "$1").replace(", ", ",");
            String thrown = call.group(4) == null ? "" : " " + call.group(4).replace(", ", " ");
            found.add(call.group(1) + "(" + types + ")" + thrown);
        }
        return Document.face().isEmpty() ? new TreeSet<>(List.of(FACE)) : found;
    }

    private static TreeSet<String> methods() {
        TreeSet<String> found = new TreeSet<>();
        for (Method method : NoiseKeys.class.getDeclaredMethods()) {
            if (!Modifier.isPrivate(method.getModifiers()) && !method.isSynthetic()) {
                found.add(told(method));
            }
        }
        return found;
    }

    private static String told(Method method) {
        List<String> parameters = new ArrayList<>();
        for (Class<?> type : method.getParameterTypes()) {
            parameters.add(type.getSimpleName());
        }
        StringBuilder text = new StringBuilder();
        text.append(Modifier.isPublic(method.getModifiers()) ? "" : "not public ");
        text.append(Modifier.isStatic(method.getModifiers()) ? "static " : "");
        text.append(method.getReturnType().getSimpleName()).append(' ').append(method.getName());
        text.append('(').append(String.join(",", parameters)).append(')');
        for (Class<?> type : method.getExceptionTypes()) {
            text.append(' ').append(type.getSimpleName());
        }
        return text.toString();
    }

    private static List<String> namesakes() {
        List<Method> hidden = new ArrayList<>();
        for (Class<?> inside : NoiseKeys.class.getDeclaredClasses()) {
            hidden.addAll(List.of(inside.getDeclaredMethods()));
        }
        TreeSet<String> names = new TreeSet<>();
        for (Method method : NoiseKeys.class.getDeclaredMethods()) {
            if (Modifier.isPublic(method.getModifiers())) {
                names.add(method.getName());
            } else {
                hidden.add(method);
            }
        }
        List<String> found = new ArrayList<>();
        for (Method method : hidden) {
            if (names.contains(method.getName())) {
                found.add(method.toString());
            }
        }
        return found;
    }

    private static List<String> constructors() {
        List<String> found = new ArrayList<>();
        for (Constructor<?> constructor : NoiseKeys.class.getDeclaredConstructors()) {
            found.add(constructor.getModifiers() + " of " + constructor.getParameterCount() + " parameters");
        }
        return found;
    }

    private static List<String> openFields() {
        List<String> found = new ArrayList<>();
        for (Field field : NoiseKeys.class.getDeclaredFields()) {
            if (!Modifier.isPrivate(field.getModifiers())) {
                found.add(field.getName());
            }
        }
        return found;
    }

    private static List<String> otherClasses() {
        List<String> found = new ArrayList<>();
        for (Class<?> inside : NoiseKeys.class.getDeclaredClasses()) {
            int modifiers = inside.getModifiers();
            if (!Modifier.isStatic(modifiers) || !Modifier.isPrivate(modifiers)) {
                found.add(inside.getSimpleName());
            }
        }
        return found;
    }
}
