import java.io.IOException;
import java.lang.reflect.Constructor;
import java.lang.reflect.Field;
import java.lang.reflect.Method;
import java.lang.reflect.Modifier;
import java.nio.file.Files;
import java.nio.file.Path;
import java.util.Arrays;
import java.util.Set;
import java.util.TreeSet;
import java.util.regex.Pattern;

/** The public face, and the rules of LANGUAGE.md that can be seen from outside. */
public final class FaceTest {
    private static final Set<String> FACE = Set.of(
            "write(long,int)", "erase()", "fault()", "parish()", "bundle(int,int)", "covers(int,int)", "teams(int)",
            "span(int,int)", "ring()", "stack(int)", "over(int,int)", "joined(int,int)", "later(int,int)",
            "odds(int,int,int)", "field(int,int)", "fields()", "ploughed(int,int)", "peak(int)",
            "terrier(int,int,int)", "given(int)", "holder(int,int)", "round()", "whose(int)",
            "picture(int,int,int)", "shows(int,int)", "seen(int)", "count(int)");

    /** Words and signs that the language has not. */
    private static final String[] BARRED = {
        "\\bthrow\\b", "\\bthrows\\b", "\\btry\\b", "\\bcatch\\b", "\\bfinally\\b", "\\bsynchronized\\b",
        "\\bassert\\b", "\\bimport\\b", "\\bpackage\\b", "->", "::", "\\bdouble\\b", "\\bfloat\\b", "\\bSystem\\b",
        "\\bprotected\\b", "Exact\\b", "\\bstatic\\s*\\{", "\\bThread\\b", "\\bRandom\\b",
    };

    public static void main(String[] args) throws IOException {
        constants();
        methods();
        nested();
        source();
        Due.end();
    }

    private static void constants() {
        Due.is("NONE", BentFurrows.NONE, -1);
        Due.is("UNKNOWN", BentFurrows.UNKNOWN, -2);
        Due.is("OUTSIDE", BentFurrows.OUTSIDE, -3);
        Due.is("NOT", BentFurrows.NOT, -4);
        Due.is("FULL", BentFurrows.FULL, -5);
        int open = 0;
        for (Field field : BentFurrows.class.getDeclaredFields()) {
            open += Modifier.isPrivate(field.getModifiers()) ? 0 : 1;
        }
        Due.is("fields that are not private", open, 5);
    }

    private static void methods() {
        Set<String> open = new TreeSet<>();
        for (Method method : BentFurrows.class.getDeclaredMethods()) {
            if (!Modifier.isPrivate(method.getModifiers())) {
                Due.is(method.getName() + " answers an int", method.getReturnType() == int.class ? 1 : 0, 1);
                open.add(signature(method));
            } else {
                isNoFaceName(method);
            }
        }
        Due.is("the methods of " + open, open.equals(FACE) ? 1 : 0, 1);
        Constructor<?>[] constructors = BentFurrows.class.getDeclaredConstructors();
        Due.is("constructors", constructors.length, 1);
        Due.is("its parameters", constructors[0].getParameterCount(), 0);
        Due.is("public and final", BentFurrows.class.getModifiers() & (Modifier.PUBLIC | Modifier.FINAL),
                Modifier.PUBLIC | Modifier.FINAL);
    }

    private static String signature(Method method) {
        String parameters = Arrays.toString(method.getParameterTypes()).replaceAll("[\\[\\] ]", "");
        return method.getName() + "(" + parameters + ")";
    }

    private static void isNoFaceName(Method method) {
        boolean taken = FACE.stream().anyMatch(face -> face.startsWith(method.getName() + "("));
        Due.is(method + " bears a name of the face", taken ? 1 : 0, 0);
        Due.is(method + " takes at most seven", method.getParameterCount() <= 7 ? 1 : 0, 1);
    }

    private static void nested() {
        Class<?>[] inside = BentFurrows.class.getDeclaredClasses();
        Due.is("at most twelve classes", inside.length < 12 ? 1 : 0, 1);
        for (Class<?> one : inside) {
            Due.is(one + " is static", Modifier.isStatic(one.getModifiers()) ? 1 : 0, 1);
            int own = 0;
            for (Field field : one.getDeclaredFields()) {
                own += Modifier.isStatic(field.getModifiers()) ? 0 : 1;
                boolean fixed = !Modifier.isStatic(field.getModifiers()) || Modifier.isFinal(field.getModifiers());
                Due.is(field + " is final if static", fixed ? 1 : 0, 1);
            }
            Due.is(one + " has at most twenty fields", own <= 20 ? 1 : 0, 1);
            for (Method method : one.getDeclaredMethods()) {
                isNoFaceName(method);
            }
        }
    }

    private static void source() throws IOException {
        String source = Files.readString(Path.of("src/main/java/BentFurrows.java"));
        String code = source.replaceAll("(?s)/\\*.*?\\*/", "").replaceAll("//[^\n]*", "");
        for (String barred : BARRED) {
            Due.is("the source has " + barred, Pattern.compile(barred).matcher(code).find() ? 1 : 0, 0);
        }
        Due.is("signs beyond 127", source.chars().filter(sign -> sign > 127).count(), 0);
        nothingThrows(code);
        methodsAreShort(code);
    }

    /** What the machine could throw at: each place must be one that has been looked at. */
    private static void nothingThrows(String code) {
        Due.is("indexes that are used, in at and put alone", times("\\w\\[\\w+\\]", code.replaceAll("new int\\[", "")), 2);
        Due.is("at tests its index", times("place >= 0 && place < row\\.length \\? row\\[place\\]", code), 1);
        Due.is("put tests its index", times("if \\(place >= 0 && place < row\\.length\\) \\{\\s+row\\[place\\] =", code), 1);
        Due.is("divisions, both in oddsPart", times(" / ", code), 2);
        Due.is("oddsPart tests its divisor", times("if \\(common < 1\\) \\{\\s+return NONE;", code), 1);
        Due.is("remainders, in one place", times(" % ", code), 1);
        Due.is("remainder tests its divisor", times("divisor < 1 \\? 0 : number % divisor", code), 1);
        Due.is("casts but of a byte", times("\\((int|long|short|byte|char|[A-Z]\\w+)\\) ?[\\w(]", code), 1);
        Due.is("rows whose length is no constant", times("new int\\[[^A-Z(]", code), 0);
        Due.is("rows made elsewhere than with their object", times("(?<!private final int\\[\\] \\w{1,20} = )new int\\[", code), 0);
    }

    private static long times(String pattern, String code) {
        return Pattern.compile(pattern).matcher(code).results().count();
    }

    private static void methodsAreShort(String code) {
        int begun = 0;
        int found = 0;
        String[] rows = code.split("\n", -1);
        for (int i = 0; i < rows.length; i++) {
            if (rows[i].matches(" {4}( {4})?[a-zA-Z].*\\) \\{") && !rows[i].matches(" *(if|for|while|switch) .*")) {
                begun = i;
                found++;
            } else if (rows[i].matches(" {4}( {4})?\\}")) {
                Due.is("rows of" + rows[begun], i - begun <= 60 ? 1 : 0, 1);
            }
        }
        Due.is("methods that were measured", found > 100 ? 1 : 0, 1);
    }
}
