import java.lang.reflect.Constructor;
import java.lang.reflect.Field;
import java.lang.reflect.Method;
import java.lang.reflect.Modifier;
import java.util.Arrays;
import java.util.Set;
import java.util.TreeSet;
import java.util.stream.Collectors;

/** The face is that of the document, and nothing else can be seen from outside. */
final class FaceTest {
    private static final String I = "IndexOutOfBoundsException";
    private static final String A = "IllegalArgumentException";
    private static final String S = "IllegalStateException";

    private static final Set<String> DUE = Set.of(
            "int cloth(int,int,int,int,boolean,int) " + A + " " + S,
            "double wash(int) " + I,
            "int person(int,int,int,int) " + A + " " + S,
            "int measure(int,int,int) " + I + " " + A,
            "int style() " + S,
            "int piece(int,int,int,int,int) " + I + " " + A + " " + S,
            "int hand(int) " + A + " " + S,
            "int order(int,int,int) " + I + " " + A + " " + S,
            "double cut(int,int,int) " + I + " " + A + " " + S,
            "double sew(int,int) " + I + " " + S,
            "int fit(int) " + I + " " + S,
            "int give(int) " + I + " " + S,
            "double pass(int) " + A,
            "boolean shut(boolean)",
            "int bell()",
            "double ofCloth(int,int) " + I + " " + A,
            "double size(int,int,int,boolean) " + I,
            "int ofOrder(int,int) " + I + " " + A,
            "double tight(int,boolean) " + I,
            "double ready(int) " + I,
            "double free(int) " + I,
            "double clock()",
            "int many(int) " + A,
            "double lay(int,int,int,int) " + I + " " + A,
            "int best(int) " + I,
            "int mate(int,int) " + I,
            "int soonest(int) " + I,
            "long digest()");

    /** Of rule 5, those kinds of static fields that this program has a use for. */
    private static final Set<Class<?>> CONSTANTS = Set.of(
            int.class, long.class, boolean.class, char.class, String.class);

    private FaceTest() {
    }

    static void methodsAreThoseOfTheDocument(Check c) {
        Set<String> got = new TreeSet<>();
        for (Method method : TailorBench.class.getDeclaredMethods()) {
            if (!Modifier.isPrivate(method.getModifiers())) {
                got.add(text(method));
                c.that(method + " is public and no more",
                        method.getModifiers() == Modifier.PUBLIC);
            }
        }
        c.that("methods: " + got, got.equals(DUE));
    }

    private static String text(Method method) {
        String text = method.getReturnType() + " " + method.getName() + "("
                + Arrays.stream(method.getParameterTypes()).map(Class::getName)
                        .collect(Collectors.joining(",")) + ")";
        for (Class<?> one : method.getExceptionTypes()) {
            text += " " + one.getSimpleName();
        }
        return text;
    }

    static void noPrivateMethodBearsAPublicName(Check c) {
        Set<String> names = DUE.stream().map(d -> d.substring(d.indexOf(' ') + 1, d.indexOf('(')))
                .collect(Collectors.toSet());
        for (Method method : TailorBench.class.getDeclaredMethods()) {
            c.that(method + " is private", !Modifier.isPrivate(method.getModifiers())
                    || !names.contains(method.getName()));
        }
        for (Class<?> inside : TailorBench.class.getDeclaredClasses()) {
            for (Method method : inside.getDeclaredMethods()) {
                c.that(method + " bears a public name", !names.contains(method.getName()));
            }
        }
    }

    static void classIsPublicAndFinal(Check c) {
        c.that("public and final", TailorBench.class.getModifiers()
                == (Modifier.PUBLIC | Modifier.FINAL));
        c.that("no package", TailorBench.class.getPackageName().isEmpty());
        Constructor<?>[] made = TailorBench.class.getDeclaredConstructors();
        c.that("one constructor", made.length == 1
                && made[0].getModifiers() == Modifier.PUBLIC
                && made[0].getParameterCount() == 0
                && made[0].getExceptionTypes().length == 0);
    }

    static void nothingTakesMoreThanSevenParameters(Check c) {
        takesFew(c, TailorBench.class);
        for (Class<?> inside : TailorBench.class.getDeclaredClasses()) {
            takesFew(c, inside);
        }
    }

    private static void takesFew(Check c, Class<?> one) {
        for (Method method : one.getDeclaredMethods()) {
            c.that(method + " takes too many", method.getParameterCount() <= 7);
        }
        for (Constructor<?> made : one.getDeclaredConstructors()) {
            c.that(made + " takes too many", made.getParameterCount() <= 7);
        }
    }

    static void fieldsArePrivateAndStaticsFinal(Check c) {
        for (Field field : TailorBench.class.getDeclaredFields()) {
            c.that(field + " is private", Modifier.isPrivate(field.getModifiers()));
        }
        for (Class<?> inside : TailorBench.class.getDeclaredClasses()) {
            c.that(inside + " is static", Modifier.isStatic(inside.getModifiers()));
            c.that(inside + " is hidden", !Modifier.isPublic(inside.getModifiers())
                    && !Modifier.isProtected(inside.getModifiers()));
            fieldsAreFew(c, inside);
        }
        fieldsAreFew(c, TailorBench.class);
        c.that("classes", TailorBench.class.getDeclaredClasses().length <= 11);
    }

    private static void fieldsAreFew(Check c, Class<?> one) {
        int fields = 0;
        for (Field field : one.getDeclaredFields()) {
            if (Modifier.isStatic(field.getModifiers())) {
                c.that(field + " is final", Modifier.isFinal(field.getModifiers()));
                c.that(field + " is of a kind that a constant may be of",
                        CONSTANTS.contains(field.getType()));
            } else {
                fields++;
            }
        }
        c.that(one + " has " + fields + " fields", fields <= 20);
    }
}
