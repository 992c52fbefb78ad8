import java.io.IOException;
import java.lang.reflect.Method;
import java.lang.reflect.Modifier;
import java.nio.file.Files;
import java.nio.file.Path;
import java.util.ArrayList;
import java.util.Arrays;
import java.util.List;
import java.util.Set;
import java.util.TreeSet;
import java.util.regex.Matcher;
import java.util.regex.Pattern;
import java.util.stream.Collectors;

/** What README.md tells of the class and of its tests is so. */
final class ReadmeTest {
    static String readme;

    private static final Pattern HEADING = Pattern.compile("(?m)^#### `([^`]+)`$");
    private static final Pattern EXAMPLE = Pattern.compile(
            "(?m)^shop\\.(.+\\)); *// (?:throws )?([^ :]+):");
    private static final Pattern EXCEPTION = Pattern.compile("`(\\w+Exception)`");

    private ReadmeTest() {
    }

    static void itsCallsAreThoseOfTheClass(Check c) throws IOException {
        String source = Files.readString(Path.of(LanguageTest.source)).replaceAll("\\s+", " ");
        Set<String> told = new TreeSet<>();
        for (String heading : headings()) {
            told.add(heading.substring(0, heading.indexOf('(')));
            c.that("the class has " + heading, source.contains(" public " + heading + " "));
        }
        Set<String> due = new TreeSet<>();
        due.add("TailorBench");
        for (Method method : methods()) {
            due.add(method.getReturnType() + " " + method.getName());
        }
        c.that("told are " + told, told.equals(due));
    }

    static void itsCallsTakeAndThrowWhatIsTold(Check c) throws IOException {
        for (Method method : methods()) {
            String part = partOf(method.getName());
            List<String> thrown = new ArrayList<>();
            Matcher found = EXCEPTION.matcher(itemOf(part, "Throws"));
            while (found.find()) {
                thrown.add(found.group(1));
            }
            List<String> due = Arrays.stream(method.getExceptionTypes())
                    .map(Class::getSimpleName).collect(Collectors.toList());
            c.that(method.getName() + " throws " + thrown, thrown.equals(due));
            for (String name : parametersOf(part)) {
                c.that(method.getName() + " tells of " + name,
                        itemOf(part, "Takes").contains("`" + name + "`"));
            }
            c.that(method.getName() + " answers", !itemOf(part, "Answers").isEmpty());
        }
    }

    static void itsExampleAnswersSo(Check c) throws IOException {
        List<String> rows = new ArrayList<>();
        Matcher example = EXAMPLE.matcher(text());
        while (example.find()) {
            rows.add(example.group(1) + " = " + example.group(2));
        }
        c.that("calls in the example: " + rows.size(),
                rows.size() > 10 && rows.size() == text().split("(?m)^shop\\.", -1).length - 1);
        c.runs(Stories.EMPTY, rows.toArray(new String[0]));
    }

    static void everyTestClassIsNamed(Check c) throws IOException {
        for (Class<?> tests : AllTests.CLASSES) {
            c.that(tests.getName(), text().contains("`" + tests.getName() + "`"));
        }
    }

    private static String text() throws IOException {
        return Files.readString(Path.of(readme));
    }

    private static List<String> headings() throws IOException {
        List<String> found = new ArrayList<>();
        Matcher heading = HEADING.matcher(text());
        while (heading.find()) {
            found.add(heading.group(1));
        }
        return found;
    }

    /** What stands under the heading of this call, with the heading. */
    private static String partOf(String name) throws IOException {
        for (String part : text().split("(?m)^(?=##)")) {
            Matcher heading = HEADING.matcher(part);
            if (heading.find() && heading.group(1).contains(" " + name + "(")) {
                return part;
            }
        }
        return "";
    }

    /** The item of a call that begins so; empty if there is none. */
    private static String itemOf(String part, String begin) {
        Matcher item = Pattern.compile("(?ms)^- " + begin + ": (.*?)(?=^- |\\z)").matcher(part);
        return item.find() ? item.group(1) : "";
    }

    private static List<String> parametersOf(String part) {
        List<String> names = new ArrayList<>();
        Matcher heading = HEADING.matcher(part);
        if (heading.find()) {
            String inside = heading.group(1).replaceAll(".*\\(|\\)", "");
            for (String one : inside.isEmpty() ? new String[0] : inside.split(", ")) {
                names.add(one.substring(one.indexOf(' ') + 1));
            }
        }
        return names;
    }

    private static List<Method> methods() {
        return Arrays.stream(TailorBench.class.getDeclaredMethods())
                .filter(method -> Modifier.isPublic(method.getModifiers()))
                .collect(Collectors.toList());
    }
}
