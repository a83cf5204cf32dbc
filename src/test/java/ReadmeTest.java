import java.io.File;
import java.io.IOException;
import java.nio.file.Files;
import java.nio.file.Path;
import java.util.List;
import java.util.Set;
import java.util.TreeSet;
import java.util.regex.Matcher;
import java.util.regex.Pattern;

/** README.md: its calls compile and answer what their comments name, and its table has every test. */
public final class ReadmeTest {
    private static final Path TESTS = Path.of("src", "test", "java");
    private static final String END = "Test.java";

    /** Fewer answers than these are read only if the page is no longer written as this test reads it. */
    private static final int LEAST_ANSWERS = 30;

    /** A line with a call, and what its comment names: a number, NONE or an exception. */
    private static final Pattern CALL =
            Pattern.compile("(?:int (\\w+) = )?(\\w+\\.\\w+\\(.*\\));\\s*// (?:(-?\\d+|NONE)|throws (\\w+))\\b.*");
    private static final Pattern ROW = Pattern.compile("\\| `(\\w+Test)` \\|.*");

    private static final Check CHECK = new Check();

    public static void main(String[] arguments) throws IOException, InterruptedException {
        List<String> page = Files.readAllLines(Path.of("README.md"));
        callsAnswerWhatIsNamed(page);
        theTableHasEveryTest(page);
        everyTestIsRun(page);
        CHECK.end();
    }

    private static void callsAnswerWhatIsNamed(List<String> page) throws IOException, InterruptedException {
        Path folder = Files.createTempDirectory("readme");
        Path file = folder.resolve("ReadmeCalls.java");
        Path made = folder.resolve("ReadmeCalls.class");
        String classes = System.getProperty("java.class.path");
        Files.writeString(file, programOf(page));
        CHECK.due("javac", exitOf("javac", "-cp", classes, "-d", folder.toString(), file.toString()), 0);
        CHECK.due("the calls", exitOf("java", "-cp", classes + File.pathSeparator + folder, "ReadmeCalls"), 0);
        Files.deleteIfExists(made);
        Files.delete(file);
        Files.delete(folder);
    }

    private static int exitOf(String... command) throws IOException, InterruptedException {
        return new ProcessBuilder(command).inheritIO().start().waitFor();
    }

    /** A program that makes the calls of all Java blocks, each block on its own, and looks at the answers. */
    private static String programOf(List<String> page) {
        StringBuilder program = new StringBuilder("final class ReadmeCalls {\n"
                + "public static void main(String[] arguments) {\n"
                + "Check check = new Check();\n");
        boolean inside = false;
        int answers = 0;
        for (String line : page) {
            if (line.startsWith("```")) {
                inside = line.equals("```java");
                program.append(inside ? "{\n" : "}\n");
            } else if (inside) {
                Matcher call = CALL.matcher(line);
                boolean answered = call.matches();
                answers += answered ? 1 : 0;
                program.append(answered ? lookedAt(call) : line).append('\n');
            }
        }
        if (answers < LEAST_ANSWERS) {
            CHECK.tell("README.md names " + answers + " answers that can be read, due are " + LEAST_ANSWERS);
        }
        return program.append("check.end();\n}\n}\n").toString();
    }

    private static String lookedAt(Matcher line) {
        String variable = line.group(1);
        String call = line.group(2);
        String quoted = '"' + call.replace("\"", "\\\"") + '"';
        if (line.group(4) != null) {
            return "check.refused(" + quoted + ", bells, " + line.group(4) + ".class, () -> " + call + ");";
        }
        String answer = line.group(3).replace("NONE", "NestedBells.NONE");
        return variable == null
                ? "check.due(" + quoted + ", " + call + ", " + answer + ");"
                : "int " + variable + " = " + call + "; check.due(" + quoted + ", " + variable + ", " + answer + ");";
    }

    private static void theTableHasEveryTest(List<String> page) {
        Set<String> named = new TreeSet<>();
        for (String line : page) {
            Matcher row = ROW.matcher(line);
            if (row.matches() && !named.add(row.group(1))) {
                CHECK.tell("README.md has " + row.group(1) + " twice");
            }
        }
        Set<String> there = new TreeSet<>();
        for (String name : TESTS.toFile().list()) {
            if (name.endsWith(END)) {
                there.add(name.substring(0, name.length() - ".java".length()));
            }
        }
        if (!named.equals(there)) {
            CHECK.tell("README.md has the tests " + named + ", there are " + there);
        }
    }

    /** What README.md names runs the tests that it says, and no file with a main method bears another name. */
    private static void everyTestIsRun(List<String> page) throws IOException {
        String script = Files.readString(Path.of(".ci", "run"));
        CHECK.due("README.md has the script", page.indexOf("    sh .ci/run") < 0 ? 0 : 1, 1);
        for (String tests : new String[] {"src/test/java/*" + END, "../shared/tests/*.java"}) {
            CHECK.due(".ci/run has a loop over " + tests, script.contains("in " + tests + "; do") ? 1 : 0, 1);
        }
        for (String name : TESTS.toFile().list()) {
            boolean isTest = Files.readString(TESTS.resolve(name)).contains("    public static void main(");
            CHECK.due(name + " has a main method", isTest ? 1 : 0, name.endsWith(END) ? 1 : 0);
        }
    }
}
