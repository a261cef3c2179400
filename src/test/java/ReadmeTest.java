import java.io.IOException;
import java.lang.reflect.Method;
import java.lang.reflect.Modifier;
import java.nio.file.DirectoryStream;
import java.nio.file.Files;
import java.nio.file.Path;

/** README.md shows each call of the face, with the answers that are given, and names each test. */
public final class ReadmeTest {
    private static final Check check = new Check();
    private static final String NEW = "SegmentTrees trees = new SegmentTrees();";

    public static void main(String[] args) throws IOException {
        String readme = Files.readString(Path.of("README.md"));
        answersAreAsTold(readme);
        eachCallIsShown(readme);
        eachTestIsNamed(readme);
        rightExamplesPass();
        wrongExamplesAreSeen();
        check.end();
    }

    private static void answersAreAsTold(String readme) throws IOException {
        ReadmeExamples examples = new ReadmeExamples(readme);
        for (String complaint : examples.complaints()) {
            check.isTrue("README.md, " + complaint, false);
        }
        check.isTrue("README.md tells answers", examples.told() > 0);
    }

    private static void eachCallIsShown(String readme) {
        ReadmeExamples examples = new ReadmeExamples(readme);
        for (Method method : SegmentTrees.class.getDeclaredMethods()) {
            if (Modifier.isPublic(method.getModifiers())) {
                check.isTrue("README.md shows " + method.getName(),
                        examples.shown().contains(method.getName()));
            }
        }
    }

    private static void eachTestIsNamed(String readme) throws IOException {
        check.isTrue("README.md names .ci/run", readme.contains(".ci/run"));
        try (DirectoryStream<Path> files = Files.newDirectoryStream(Path.of("src/test/java"), "*Test.java")) {
            for (Path file : files) {
                String name = file.getFileName().toString().replace(".java", "");
                check.isTrue("README.md names " + name, readme.contains("`" + name + "`"));
            }
        }
    }

    private static void rightExamplesPass() throws IOException {
        complaints("a number", 0, NEW, "trees.count(); // -> 0");
        complaints("with a text behind it", 0, NEW, "trees.segment(1, 0);   // -> -1, there is none");
        complaints("a boolean", 0, NEW, "trees.type(0, -1, 1, 0, true, true);",
                "trees.path(0, 0, 0, 0); // -> true");
        complaints("an exception", 0, NEW, "trees.fix(); // -> throws IllegalStateException");
        complaints("an exception of a void call", 0, NEW,
                "trees.work(4, 0); // -> throws IllegalArgumentException, there is none");
        complaints("a comment and an empty line", 0, NEW, "// as it is; so", "", "trees.clearPath(); // done");
    }

    private static void wrongExamplesAreSeen() throws IOException {
        complaints("a wrong number", 1, NEW, "trees.count(); // -> 1");
        complaints("two wrong ones", 2, NEW, "trees.count(); // -> 1", "trees.at(); // -> 2, or so");
        complaints("nothing is thrown", 1, NEW, "trees.work(0, 0); // -> throws IllegalArgumentException");
        complaints("another exception", 1, NEW, "trees.fix(); // -> throws IllegalArgumentException");
        complaints("an exception instead of a number", 1, NEW, "trees.fix(); // -> 1");
        complaints("an exception that is not told", 1, NEW, "trees.work(4, 0);");
        complaints("an answer that is not told", 1, NEW, "trees.count(); // how many");
        complaints("it does not compile", 1, NEW, "trees.clearPath(1);");
        complaints("void has no answer", 1, NEW, "trees.clearPath(); // -> 0");
        complaints("no statement", 1, NEW, "trees.count()");
        complaints("two statements on a line", 1, NEW, "trees.count(); trees.at(); // -> 0");
        complaints("an answer without a call", 1, NEW, "// -> 0");
    }

    private static void complaints(String what, int due, String... lines) throws IOException {
        String text = "An example:\n```java\n" + String.join("\n", lines) + "\n```\n";
        check.same(what, new ReadmeExamples(text).complaints().size(), due);
    }
}
