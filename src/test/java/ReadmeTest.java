import java.io.ByteArrayOutputStream;
import java.io.File;
import java.io.PrintStream;
import java.lang.reflect.Method;
import java.lang.reflect.Modifier;
import java.nio.charset.StandardCharsets;
import java.nio.file.Files;
import java.nio.file.Path;

/** README.md tells what is so; run from the project's folder. */
final class ReadmeTest {
    private static final Check CHECK = new Check("ReadmeTest");
    private static final Path TESTS = Path.of("src/test/java");

    public static void main(String[] args) {
        CHECK.test("README.md: the example is Example.java", ReadmeTest::theExampleIsThatFile);
        CHECK.test("README.md: the example prints what stands there", ReadmeTest::theExamplePrints);
        CHECK.test("README.md: each call of the class is named", ReadmeTest::eachCallIsNamed);
        CHECK.test("README.md: each test program is named", ReadmeTest::eachTestProgramIsNamed);
        CHECK.end();
    }

    private static void theExampleIsThatFile() throws Exception {
        String file = Files.readString(TESTS.resolve("Example.java"));
        // The first line tells of README.md, and does not stand there.
        CHECK.same("the example", block("java"), file.substring(file.indexOf('\n') + 1));
    }

    private static void theExamplePrints() throws Exception {
        ByteArrayOutputStream printed = new ByteArrayOutputStream();
        PrintStream before = System.out;
        System.setOut(new PrintStream(printed, true, StandardCharsets.UTF_8));
        try {
            Example.main(new String[0]);
        } finally {
            System.setOut(before);
        }
        String got = printed.toString(StandardCharsets.UTF_8).replace(System.lineSeparator(), "\n");
        CHECK.same("what it prints", got, block("text"));
    }

    private static void eachCallIsNamed() throws Exception {
        String readme = readme();
        for (Method method : GearBench.class.getDeclaredMethods()) {
            if (Modifier.isPublic(method.getModifiers())) {
                names(readme, method.getName());
            }
        }
    }

    private static void eachTestProgramIsNamed() throws Exception {
        String readme = readme();
        File[] programs = TESTS.toFile().listFiles((folder, name) -> name.endsWith("Test.java"));
        for (File program : programs) {
            names(readme, program.getName().replace(".java", ""));
        }
    }

    private static void names(String readme, String word) {
        CHECK.equal(word + " is named", readme.contains("`" + word + "`") ? 1 : 0, 1);
    }

    private static String readme() throws Exception {
        return Files.readString(Path.of("README.md"));
    }

    /** The first block of README.md that is written in this language; nothing if there is none. */
    private static String block(String language) throws Exception {
        String readme = readme();
        String opening = "```" + language + "\n";
        int from = readme.indexOf(opening);
        int to = from < 0 ? -1 : readme.indexOf("```", from + opening.length());
        return to < 0 ? "" : readme.substring(from + opening.length(), to);
    }
}
