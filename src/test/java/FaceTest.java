import java.io.IOException;
import java.lang.reflect.Constructor;
import java.lang.reflect.Field;
import java.lang.reflect.Method;
import java.lang.reflect.Modifier;
import java.nio.file.Files;
import java.nio.file.Path;
import java.util.Arrays;
import java.util.Set;
import java.util.TreeSet;

/** The public face, and those rules of LANGUAGE.md that a look at the class or its text can tell. */
public final class FaceTest {
    private static final String INDEX = " IndexOutOfBoundsException";
    private static final String ARGUMENT = " IllegalArgumentException";
    private static final String STATE = " IllegalStateException";
    private static final String NO_SUCH = " NoSuchElementException";
    private static final String[] FACE = {
        "int document()" + STATE,
        "int count(int, int)" + INDEX + STATE,
        "void weigh(int, int, float)" + INDEX + ARGUMENT,
        "int token(int, float, float, float, float)" + INDEX + ARGUMENT + STATE,
        "int centroid(float, float, float, float)" + ARGUMENT + STATE,
        "void clear()",
        "int word(int)" + INDEX + ARGUMENT + STATE,
        "int impact(int, int)" + INDEX + ARGUMENT + STATE,
        "int vector(float, float, float, float)" + ARGUMENT + STATE,
        "int search(int, int, int, int)" + ARGUMENT + STATE,
        "int hit(int, int)" + ARGUMENT + NO_SUCH + INDEX,
        "double score(int, int)" + ARGUMENT + NO_SUCH + INDEX,
        "int work(int, int)" + ARGUMENT + NO_SUCH,
        "int fuse(int)" + ARGUMENT + STATE,
        "int fused(int)" + INDEX,
        "double rating(int)" + INDEX,
        "double log(double)",
        "int quantised(int, int)" + INDEX,
    };
    private static final String[] NOT_IN_THE_TEXT = {
        "->", "::", "\\btry\\b", "\\bcatch\\b", "\\bfinally\\b", "\\bsynchronized\\b", "\\bassert\\b",
        "\\bprotected\\b", "\\bpackage\\b", "Math\\.\\w*Exact", "\\bSystem\\b", "\\bRandom\\b", "\\bThread\\b",
        "@\\w+", "\\bNaN\\b", "\\bDouble\\b", "\\bFloat\\b",
    };

    private static final Checks checks = new Checks("FaceTest");

    public static void main(String[] args) throws IOException {
        face();
        members(HybridSearch.class);
        Class<?>[] allInside = HybridSearch.class.getDeclaredClasses();
        checks.that("at most twelve classes", allInside.length < 12);
        for (Class<?> inside : allInside) {
            members(inside);
            nested(inside);
        }
        text(Files.readString(Path.of(args.length > 0 ? args[0] : "src/main/java/HybridSearch.java")));
        checks.end();
    }

    private static String signature(Method method) {
        StringBuilder text = new StringBuilder(method.getReturnType().getSimpleName());
        text.append(' ').append(method.getName()).append('(');
        String gap = "";
        for (Class<?> type : method.getParameterTypes()) {
            text.append(gap).append(type.getSimpleName());
            gap = ", ";
        }
        text.append(')');
        for (Class<?> type : method.getExceptionTypes()) {
            text.append(' ').append(type.getSimpleName());
        }
        return text.toString();
    }

    private static void face() {
        checks.that("public", Modifier.isPublic(HybridSearch.class.getModifiers()));
        checks.that("final", Modifier.isFinal(HybridSearch.class.getModifiers()));
        Set<String> names = new TreeSet<>();
        Set<String> open = new TreeSet<>();
        for (Method method : HybridSearch.class.getDeclaredMethods()) {
            if (!Modifier.isPrivate(method.getModifiers()) && !method.isSynthetic()) {
                open.add(signature(method));
                checks.that(method + " is public", Modifier.isPublic(method.getModifiers()));
                names.add(method.getName());
            }
        }
        checks.same("the face", new TreeSet<>(Arrays.asList(FACE)).toString(), open.toString());
        for (Method method : HybridSearch.class.getDeclaredMethods()) {
            if (Modifier.isPrivate(method.getModifiers())) {
                checks.that(method + " bears a public name", !names.contains(method.getName()));
            }
        }
        for (Field field : HybridSearch.class.getDeclaredFields()) {
            checks.that(field + " is private", Modifier.isPrivate(field.getModifiers()));
        }
        Constructor<?>[] constructors = HybridSearch.class.getDeclaredConstructors();
        checks.that("one constructor", constructors.length == 1 && constructors[0].getParameterCount() == 0);
    }

    private static void members(Class<?> type) {
        int fields = 0;
        for (Field field : type.getDeclaredFields()) {
            if (Modifier.isStatic(field.getModifiers())) {
                checks.that(field + " is final", Modifier.isFinal(field.getModifiers()));
                checks.that(field + " is an int", field.getType() == int.class);
            } else {
                fields++;
            }
        }
        checks.that(type + " has at most twenty fields", fields <= 20);
        for (Method method : type.getDeclaredMethods()) {
            checks.that(method + " has at most seven parameters", method.getParameterCount() <= 7);
        }
    }

    private static void nested(Class<?> inside) {
        checks.that(inside + " is static", Modifier.isStatic(inside.getModifiers()));
        checks.that(inside + " is not open", !Modifier.isPublic(inside.getModifiers()));
    }

    private static void text(String source) {
        String code = source.replaceAll("(?s)/\\*.*?\\*/", "").replaceAll("//[^\n]*", "");
        for (String pattern : NOT_IN_THE_TEXT) {
            checks.that(pattern + " stands in the text", !java.util.regex.Pattern.compile(pattern).matcher(code).find());
        }
        checks.that("one import alone", code.split("\\bimport\\b").length == 2
                && code.contains("import java.util.NoSuchElementException;"));
        checks.that("no character beyond 255", source.chars().allMatch(c -> c < 256));
    }
}
