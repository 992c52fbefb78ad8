import java.lang.reflect.InvocationTargetException;
import java.lang.reflect.Method;
import java.lang.reflect.Modifier;
import java.util.ArrayList;
import java.util.Arrays;
import java.util.Comparator;
import java.util.List;

/** Runs every static method of the test classes that takes a Check; ends with 1 if one fails. */
public final class AllTests {
    static final List<Class<?>> CLASSES = List.of(
            ClothsPeopleStylesTest.class, OrdersTest.class, AskedTest.class, LayTest.class,
            WouldBeTest.class, EdgesTest.class, LayEdgesTest.class, RefusalsTest.class,
            FaceTest.class, LanguageTest.class, ReadmeTest.class, ModelTest.class);

    private AllTests() {
    }

    /** The arguments are the paths of the program's source and of its README, for the tests of both. */
    public static void main(String[] args) throws IllegalAccessException {
        LanguageTest.source = args.length > 0 ? args[0] : "src/main/java/TailorBench.java";
        ReadmeTest.readme = args.length > 1 ? args[1] : "README.md";
        int passed = 0;
        int failed = 0;
        for (Class<?> tests : CLASSES) {
            for (Method test : testsOf(tests)) {
                List<String> faults = run(test);
                if (faults.isEmpty()) {
                    passed++;
                    continue;
                }
                failed++;
                System.out.println("FAILED " + tests.getName() + "." + test.getName());
                for (String fault : faults.subList(0, Math.min(10, faults.size()))) {
                    System.out.println("    " + fault);
                }
            }
        }
        System.out.println(passed + " passed, " + failed + " failed");
        if (failed > 0 || passed == 0) {
            System.exit(1);
        }
    }

    private static List<Method> testsOf(Class<?> tests) {
        List<Method> found = new ArrayList<>();
        for (Method method : tests.getDeclaredMethods()) {
            if (!Modifier.isPrivate(method.getModifiers()) && !method.isSynthetic()
                    && Arrays.equals(method.getParameterTypes(), new Class<?>[] {Check.class})) {
                found.add(method);
            }
        }
        found.sort(Comparator.comparing(Method::getName));
        return found;
    }

    private static List<String> run(Method test) throws IllegalAccessException {
        Check check = new Check();
        try {
            test.invoke(null, check);
        } catch (InvocationTargetException e) {
            check.that("threw " + e.getCause(), false);
        }
        return check.faults();
    }
}
