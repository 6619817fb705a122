import java.io.IOException;
import java.lang.reflect.Method;
import java.lang.reflect.Modifier;
import java.nio.file.Files;
import java.nio.file.Path;
import java.util.List;
import java.util.stream.Stream;

/** README.md: its example answers what it says there, and it names every method and every test. */
public final class ReadmeTest {
    private static final Path TESTS = Path.of("src", "test", "java");

    public static void main(String[] args) throws IOException {
        String readme = Files.readString(Path.of("README.md"));
        Check.sentence("README.md");
        example();
        exampleIsTheOneTested(readme);
        namesEveryMethod(readme);
        namesEveryTest(readme);
        Check.end();
    }

    private static void example() {
        SpeculativeCaches x = new SpeculativeCaches();
        x.begin(2, 2, 4);                       // 2 cores, policy 2 (by number), buffers of 4 lines
        for (char sign : "b;r0;a5;w0;c;".toCharArray()) {
            x.append(sign);                     // begin, read line 0, add 5, write line 0, commit
        }
        x.load(0);
        x.load(1);
        int steps = x.finish(0);                // what if: 12 steps until all are finished under policy 0
        int done = x.run(1000);                 // scheduled steps; 2 cores are finished then
        int value = x.memory(0, true);          // 10
        boolean fine = x.serializable();        // true
        int left = x.undo();                    // as before run(); 3 saved states remain
        Check.due("steps of the example", steps, 12);
        Check.due("done of the example", done, 2);
        Check.due("value of the example", value, 10);
        Check.due("fine of the example", fine, true);
        Check.due("left of the example", left, 3);
    }

    private static String withoutIndents(String text) {
        return String.join("\n", text.lines().map(String::strip).toList());
    }

    private static void exampleIsTheOneTested(String readme) throws IOException {
        int start = readme.indexOf("```java\n") + "```java\n".length();
        String shown = withoutIndents(readme.substring(start, readme.indexOf("```", start)));
        String tested = withoutIndents(Files.readString(TESTS.resolve("ReadmeTest.java")));
        Check.due("the example has lines", shown.lines().count() > 10, true);
        Check.due("the example stands in this test", tested.contains(shown), true);
    }

    private static void namesEveryMethod(String readme) {
        for (Method method : SpeculativeCaches.class.getDeclaredMethods()) {
            if (Modifier.isPublic(method.getModifiers())) {
                Check.due("names " + method.getName(), readme.contains("`" + method.getName() + "`"), true);
            }
        }
    }

    private static void namesEveryTest(String readme) throws IOException {
        try (Stream<Path> files = Files.list(TESTS)) {
            List<String> tests = files.map(file -> file.getFileName().toString()).filter(n -> n.endsWith("Test.java"))
                    .map(name -> name.replace(".java", "")).sorted().toList();
            for (String test : tests) {
                Check.due("names " + test, readme.contains("| " + test + " |"), true);
            }
        }
    }
}
