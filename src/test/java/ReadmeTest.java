import java.io.File;
import java.io.IOException;
import java.net.URL;
import java.net.URLClassLoader;
import java.nio.file.Files;
import java.nio.file.Path;
import java.util.Map;
import java.util.Set;
import java.util.TreeSet;
import java.util.regex.Matcher;
import java.util.regex.Pattern;
import javax.tools.ToolProvider;

/** What README.md says: its example, its table of instructions and its list of tests. The argument is the root. */
public final class ReadmeTest {
    private static final Check CHECK = new Check("ReadmeTest");
    /** The least and the greatest of each operand that README.md names; "int" is any. */
    private static final Map<String, int[]> RANGES = Map.of("place", new int[] {0, 20}, "body", new int[] {0, 3},
        "task", new int[] {0, 7}, "entry", new int[] {0, 2}, "time", new int[] {0, 99},
        "exception", new int[] {1, 9});

    public static void main(String[] args) throws Exception {
        Path root = Path.of(args.length > 0 ? args[0] : ".");
        String text = Files.readString(root.resolve("README.md"));
        theExampleAnswersWhatItSays(text);
        theInstructionsAreTheDocuments(text);
        theRangesAreTold(text);
        everyTestIsNamed(text, root);
        CHECK.end();
    }

    private static void theExampleAnswersWhatItSays(String text) throws Exception {
        CHECK.about("the example");
        Matcher block = Pattern.compile("```java\n(.*?)```", Pattern.DOTALL).matcher(text);
        CHECK.due("a block of Java", 1, block.find() ? 1 : 0);
        Path made = Files.createTempDirectory("readme");
        Path file = made.resolve("ReadmeExample.java");
        Files.writeString(file, "public final class ReadmeExample { public static int[] answers() {\n"
            + block.group(1) + "return new int[] {how, who, shown}; } }\n");
        int compiled = ToolProvider.getSystemJavaCompiler().run(null, null, null, "-proc:none", "-cp",
            System.getProperty("java.class.path"), "-d", made.toString(), file.toString());
        CHECK.due("javac", 0, compiled);
        if (compiled == 0) {
            try (URLClassLoader loader = new URLClassLoader(new URL[] {made.toUri().toURL()})) {
                int[] got = (int[]) loader.loadClass("ReadmeExample").getMethod("answers").invoke(null);
                CHECK.due("how", RendezvousDesk.OVER, got[0]);
                CHECK.due("who", 0, got[1]);
                CHECK.due("shown", 6, got[2]);
            }
        }
        remove(made);
    }

    private static void remove(Path directory) {
        for (File file : directory.toFile().listFiles()) {
            file.delete();
        }
        directory.toFile().delete();
    }

    private static void theInstructionsAreTheDocuments(String text) {
        Set<Integer> told = new TreeSet<>();
        Matcher cell = Pattern.compile("\\| (\\d+) \\| ([A-Z]+)((?: [a-z]+)*) (?=\\|)").matcher(text);
        while (cell.find()) {
            int op = Integer.parseInt(cell.group(1));
            told.add(op);
            CHECK.about(cell.group(2));
            CHECK.due("its number", Script.number(cell.group(2)), op);
            String[] operands = cell.group(3).isBlank() ? new String[0] : cell.group(3).trim().split(" ");
            for (int which = 0; which < 2; which++) {
                operandIsAsTold(op, operands, which);
            }
        }
        CHECK.about("the table");
        CHECK.due("instructions", 26, told.size());
    }

    /** The others of its operands are 1, which fits all of them. */
    private static void operandIsAsTold(int op, String[] operands, int which) {
        int[] range = which < operands.length ? RANGES.get(operands[which]) : null;
        int least = range == null ? Integer.MIN_VALUE : range[0];
        int most = range == null ? Integer.MAX_VALUE : range[1];
        answers(op, which, least, 1);
        answers(op, which, most, 1);
        if (range != null) {
            answers(op, which, least - 1, RendezvousDesk.BAD);
            answers(op, which, most + 1, RendezvousDesk.BAD);
        }
    }

    private static void answers(int op, int which, int value, int want) {
        int a = which == 0 ? value : 1;
        int b = which == 1 ? value : 1;
        CHECK.due("add(0, " + op + ", " + a + ", " + b + ")", want, new RendezvousDesk().add(0, op, a, b));
    }

    private static void theRangesAreTold(String text) {
        CHECK.about("the ranges");
        String line = text.replace('\n', ' ');
        for (Map.Entry<String, int[]> range : RANGES.entrySet()) {
            String words = range.getKey() + " " + range.getValue()[0] + ".." + range.getValue()[1];
            CHECK.due(words, 1, line.contains(words) ? 1 : 0);
        }
    }

    private static void everyTestIsNamed(String text, Path root) throws IOException {
        CHECK.about("the list of tests");
        for (String name : root.resolve("src/test/java").toFile().list()) {
            if (name.endsWith("Test.java")) {
                String row = "| " + name.replace(".java", "") + " |";
                CHECK.due(row, 1, text.contains(row) ? 1 : 0);
            }
        }
    }
}
