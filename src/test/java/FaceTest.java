import java.lang.reflect.Constructor;
import java.lang.reflect.Field;
import java.lang.reflect.Method;
import java.lang.reflect.Modifier;
import java.nio.file.Files;
import java.nio.file.Path;
import java.util.Arrays;
import java.util.HashSet;
import java.util.List;
import java.util.Set;
import java.util.TreeSet;
import java.util.regex.Matcher;
import java.util.regex.Pattern;

/** The face as the document has it, and the rules of LANGUAGE.md that can be seen from outside. */
public final class FaceTest {
    private static final Check CHECK = new Check();
    private static final List<String> CONSTANTS =
            List.of("BAD -1", "NOT -2", "FULL -3", "NONE -4", "NULL -11", "CAST -12", "INDEX -13", "SIZE -14");
    /** Each with the letters of its parameters: i an int, l a long. */
    private static final List<String> METHODS = List.of("planks i", "rule ii", "person iiiii", "told ii", "stay ii",
            "hold ii", "clear ", "type li", "laws ", "people ", "count i", "fate ii", "at ii", "gone ii", "all i",
            "soonest ii", "order iii", "worth ii", "waits i", "handed ii", "ford i", "shared ii", "late iiii",
            "other ii", "image ", "restore ", "crowd iiii", "sheet iii", "drop i", "item iiii", "film iii");

    private static String letters(Class<?>[] types) {
        StringBuilder all = new StringBuilder();
        for (Class<?> type : types) {
            all.append(type == int.class ? 'i' : type == long.class ? 'l' : '?');
        }
        return all.toString();
    }

    private static void face() throws IllegalAccessException {
        CHECK.part("face");
        Class<?> face = PlankBridge.class;
        CHECK.holds("public and final", Modifier.isPublic(face.getModifiers()) && Modifier.isFinal(face.getModifiers()));
        Set<String> methods = new TreeSet<>();
        Set<String> names = new HashSet<>();
        for (Method method : face.getDeclaredMethods()) {
            if (!Modifier.isPrivate(method.getModifiers())) {
                CHECK.holds(method + " is an int", method.getReturnType() == int.class);
                methods.add(method.getName() + " " + letters(method.getParameterTypes()));
                names.add(method.getName());
            }
        }
        CHECK.holds("methods " + methods, methods.equals(new TreeSet<>(METHODS)));
        Set<String> constants = new TreeSet<>();
        for (Field field : face.getDeclaredFields()) {
            if (!Modifier.isPrivate(field.getModifiers())) {
                CHECK.holds(field + " is a public constant", field.getModifiers()
                        == (Modifier.PUBLIC | Modifier.STATIC | Modifier.FINAL) && field.getType() == int.class);
                constants.add(field.getName() + " " + field.getInt(null));
            }
        }
        CHECK.holds("constants " + constants, constants.equals(new TreeSet<>(CONSTANTS)));
        Constructor<?>[] makers = face.getDeclaredConstructors();
        CHECK.holds("one constructor", makers.length == 1 && makers[0].getParameterCount() == 0
                && Modifier.isPublic(makers[0].getModifiers()));
        inside(face, names);
        for (Class<?> inner : face.getDeclaredClasses()) {
            CHECK.holds(inner + " is static", Modifier.isStatic(inner.getModifiers()));
            inside(inner, names);
        }
        CHECK.holds("twelve classes at most", face.getDeclaredClasses().length < 12);
    }

    private static void inside(Class<?> one, Set<String> names) {
        int fields = 0;
        for (Field field : one.getDeclaredFields()) {
            boolean fixed = Modifier.isStatic(field.getModifiers());
            CHECK.holds(field + " is final if static", !fixed || Modifier.isFinal(field.getModifiers()));
            fields += fixed ? 0 : 1;
        }
        CHECK.holds(one + " has twenty fields at most", fields <= 20);
        for (Method method : one.getDeclaredMethods()) {
            CHECK.holds(method + " has seven parameters at most", method.getParameterCount() <= 7);
            if (one != PlankBridge.class || Modifier.isPrivate(method.getModifiers())) {
                CHECK.holds(method + " has a name of its own", !names.contains(method.getName()));
            }
        }
    }

    private static void source() throws java.io.IOException {
        CHECK.part("source");
        String text = Files.readString(Path.of("src/main/java/PlankBridge.java"));
        for (int i = 0; i < text.length(); i++) {
            if (text.charAt(i) > 126) {
                CHECK.holds("plain signs at " + i, false);
            }
        }
        String code = text.replaceAll("(?s)/\\*.*?\\*/", " ").replaceAll("//[^\n]*", " ")
                .replaceAll("\"[^\"\n]*\"", "\"\"").replaceAll("'[^'\n]'", "' '");
        for (String word : Arrays.asList("throw", "throws", "try", "catch", "synchronized", "assert", "import",
                "package", "Object", "System.out", "protected", "volatile", "var")) {
            Matcher found = Pattern.compile("\\b" + Pattern.quote(word) + "\\b").matcher(code);
            CHECK.holds("no " + word, !found.find());
        }
        CHECK.holds("no lambda, no method reference", !code.contains("->") && !code.contains("::"));
        int start = 0;
        int line = 0;
        for (String row : text.split("\n", -1)) {
            line++;
            CHECK.holds("line " + line + " is not too long", row.length() <= 125);
            if (row.matches("    (    )?(public|private|static|final|void|int|boolean|[A-Z]\\w*)\\b.*\\{")) {
                start = row.contains(" class ") ? 0 : line;
            } else if (start > 0 && row.matches("    (    )?\\}")) {
                CHECK.holds("the method at line " + start + " is short", line - start <= 60);
                start = 0;
            }
        }
    }

    public static void main(String[] args) throws Exception {
        face();
        source();
        CHECK.end();
    }
}
