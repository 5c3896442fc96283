import java.io.IOException;
import java.lang.reflect.Method;
import java.lang.reflect.Modifier;
import java.nio.file.Files;
import java.nio.file.Path;
import java.util.regex.Matcher;
import java.util.regex.Pattern;

/** README.md: its examples answer what its comments say, and it names every call and test. */
public final class ReadmeTest {
    private static final Pattern EXAMPLE = Pattern.compile("village\\.(\\w+\\(.*\\));\\s*// (-?\\d+): ");
    private static final int EXAMPLES = 10;

    private final String readme;
    private final Matcher example;

    private ReadmeTest(String readme) {
        this.readme = readme;
        example = EXAMPLE.matcher(readme);
    }

    public static void main(String[] args) throws IOException {
        ReadmeTest test = new ReadmeTest(Files.readString(Path.of("README.md")));
        test.examples();
        test.calls();
        test.tests();
        Check.end();
    }

    private void examples() {
        OpenFields village = new OpenFields();
        int house = village.house(50, 2);
        next("house(50, 2)", house);
        int strip = village.strip(0, 5, house);
        next("strip(0, 5, house)", strip);
        next("sow(strip)", village.sow(strip));
        next("week(9)", village.week(9));
        next("reap(strip)", village.reap(strip));
        next("hold(house, 0)", village.hold(house, 0));
        next("feed(3, 'w' | '>' << 8 | '9' << 16)", village.feed(3, 'w' | '>' << 8 | '9' << 16));
        next("make(0, 10)", village.make(0, 10));
        next("week(1)", village.week(1));
        next("law(0, house, strip)", village.law(0, house, strip));
        Check.that("there is no example more", !example.find());
        Check.is("examples", EXAMPLE.matcher(readme).results().count(), EXAMPLES);
    }

    private void next(String call, int answer) {
        boolean found = example.find();
        Check.that("an example for " + call, found && example.group(1).equals(call));
        if (found) {
            Check.is(call, answer, Integer.parseInt(example.group(2)));
        }
    }

    private void calls() {
        for (Method method : OpenFields.class.getDeclaredMethods()) {
            if (Modifier.isPublic(method.getModifiers())) {
                Matcher row = Pattern.compile("\\| `" + method.getName() + "\\(([^)]*)\\)` \\|").matcher(readme);
                boolean found = row.find();
                Check.that("a row for " + method.getName(), found);
                if (found) {
                    String parameters = row.group(1);
                    int told = parameters.isEmpty() ? 0 : parameters.split(", ").length;
                    Check.is("parameters of " + method.getName(), told, method.getParameterCount());
                }
            }
        }
    }

    private void tests() throws IOException {
        try (var files = Files.list(Path.of("src/test/java"))) {
            files.map(file -> file.getFileName().toString().replace(".java", ""))
                .filter(name -> name.endsWith("Test"))
                .forEach(name -> Check.that(name + " is told", readme.contains("`" + name + "`")));
        }
    }
}
