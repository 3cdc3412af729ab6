import java.io.IOException;
import java.lang.reflect.Field;
import java.lang.reflect.Method;
import java.lang.reflect.Modifier;
import java.nio.file.Files;
import java.nio.file.Path;
import java.util.HashMap;
import java.util.Map;
import java.util.regex.Matcher;
import java.util.regex.Pattern;

/** README.md names every call, with as many arguments as it takes, and every constant; its example is true. */
public final class ReadmeTest {
    private static final Check CHECK = new Check("ReadmeTest");

    public static void main(String[] args) throws IOException {
        String page = Files.readString(Path.of("README.md"));
        everyCallIsNamed(page);
        everyConstantIsNamed(page);
        CHECK.dueTrue("it says how the tests are run", page.contains(".ci/run"));
        exampleIsTrue(page);
        CHECK.finish();
    }

    private static void everyCallIsNamed(String page) {
        Map<String, Integer> named = new HashMap<>();
        Matcher found = Pattern.compile("`(\\w+)\\(([^)`]*)\\)`").matcher(page);
        while (found.find()) {
            named.put(found.group(1), found.group(2).isEmpty() ? 0 : found.group(2).split(",").length);
        }
        for (Method method : DragonJars.class.getDeclaredMethods()) {
            if (Modifier.isPublic(method.getModifiers())) {
                CHECK.due("arguments of " + method.getName() + " in README.md",
                    named.getOrDefault(method.getName(), -1), method.getParameterCount());
            }
        }
    }

    private static void everyConstantIsNamed(String page) {
        for (Field field : DragonJars.class.getFields()) {
            CHECK.dueTrue(field.getName() + " is in README.md", page.contains("`" + field.getName() + "`"));
        }
    }

    private static void exampleIsTrue(String page) {
        DragonJars land = new DragonJars();
        int h = land.house(0, 3, 3, 20, 10);
        land.pillar(h, 30, -1);
        land.shake(6, 4, 0, 9, 0, 100);
        int seen = land.look(h);
        CHECK.dueTrue("reports: " + seen, page.contains("comes into the book: " + seen + " reports"));
        CHECK.dueTrue("guesses: " + land.fits(), page.contains("give just this: " + land.fits() + "\n"));
        CHECK.dueTrue("first: " + land.fit(0, 0), page.contains("first of them: " + land.fit(0, 0) + "\n"));
    }
}
