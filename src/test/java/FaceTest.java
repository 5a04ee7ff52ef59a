import java.io.IOException;
import java.lang.reflect.Constructor;
import java.lang.reflect.Method;
import java.lang.reflect.Modifier;
import java.nio.file.Files;
import java.nio.file.Path;
import java.util.ArrayList;
import java.util.Collections;
import java.util.List;

/** The face is that of the document, no more and no less, and the source keeps to the rules of LANGUAGE.md. */
public final class FaceTest {
    private static final String DOCUMENT = "../shared/DOC.md";
    private static final String SOURCE = "src/main/java/Twinchat.java";

    private FaceTest() {
    }

    public static void main(String[] args) throws IOException {
        face();
        language();
        System.exit(Check.closed("FaceTest"));
    }

    private static void face() throws IOException {
        List<String> due = new ArrayList<>();
        for (String line : Files.readAllLines(Path.of(DOCUMENT))) {
            if (line.startsWith("    public ")) due.add(plain(line.trim().replaceAll("^public |;$", "")));
        }
        List<String> got = new ArrayList<>();
        for (Constructor<?> each : Twinchat.class.getDeclaredConstructors()) {
            got.add("Twinchat(" + types(each.getParameterTypes()) + ")" + thrown(each.getExceptionTypes()));
            Check.that("the constructor is public", true, Modifier.isPublic(each.getModifiers()));
        }
        for (Method each : Twinchat.class.getDeclaredMethods()) {
            if (Modifier.isPrivate(each.getModifiers())) continue;
            got.add(each.getReturnType().getSimpleName() + " " + each.getName()
                    + "(" + types(each.getParameterTypes()) + ")" + thrown(each.getExceptionTypes()));
        }
        Collections.sort(due);
        Collections.sort(got);
        Check.that("a constructor and 49 methods", 50, due.size());
        Check.that("the face", due, got);
        Check.that("final", true, Modifier.isFinal(Twinchat.class.getModifiers()));
        Check.that("no field to be seen", 0, Twinchat.class.getFields().length);
        privateNames();
    }

    /** Without the names of the parameters: reflection does not know them. */
    private static String plain(String signature) {
        return signature.replaceAll("(int|boolean) \\w+(?=[,)])", "$1");
    }

    private static String types(Class<?>[] types) {
        List<String> names = new ArrayList<>();
        for (Class<?> type : types) names.add(type.getSimpleName());
        return String.join(", ", names);
    }

    private static String thrown(Class<?>[] types) {
        return types.length == 0 ? "" : " throws " + types(types);
    }

    private static void privateNames() {
        List<String> faces = new ArrayList<>();
        for (Method each : Twinchat.class.getMethods()) {
            if (each.getDeclaringClass() == Twinchat.class) faces.add(each.getName());
        }
        List<Class<?>> classes = new ArrayList<>(List.of(Twinchat.class.getDeclaredClasses()));
        Check.that("some twelve classes", true, classes.size() <= 12);
        classes.add(Twinchat.class);
        for (Class<?> each : classes) {
            int fields = 0;
            for (java.lang.reflect.Field field : each.getDeclaredFields()) {
                boolean isConstant = Modifier.isStatic(field.getModifiers());
                Check.that(each + ": static is final", true, !isConstant || Modifier.isFinal(field.getModifiers()));
                fields += isConstant ? 0 : 1;
            }
            Check.that(each + ": some twenty fields", true, fields <= 20);
            for (Method method : each.getDeclaredMethods()) {
                boolean isFace = each == Twinchat.class && Modifier.isPublic(method.getModifiers());
                Check.that(method + " has a name of its own", true, isFace || !faces.contains(method.getName()));
                Check.that(method + " has at most seven parameters", true, method.getParameterCount() <= 7);
            }
        }
    }

    private static void language() throws IOException {
        String source = Files.readString(Path.of(SOURCE)).replaceAll("(?s)/\\*.*?\\*/|//[^\n]*", "");
        for (String word : new String[] {"try", "catch", "finally", "synchronized", "assert", "package", "System"}) {
            Check.that("no " + word, false, source.matches("(?s).*\\b" + word + "\\b.*"));
        }
        for (String sign : new String[] {"->", "::", "\" +", "+ \"", "+= \""}) {
            Check.that("no " + sign, false, source.contains(sign));
        }
        for (String line : source.split("\n")) {
            if (line.startsWith("import ")) Check.that("what is imported", "import java.util.Arrays;", line);
        }
    }
}
