import java.io.IOException;
import java.lang.reflect.Method;
import java.lang.reflect.Modifier;
import java.nio.file.Files;
import java.nio.file.Path;
import java.util.ArrayList;
import java.util.List;
import java.util.regex.Matcher;
import java.util.regex.Pattern;
import java.util.stream.Stream;

/** What README.md tells is so: its example answers as it says, and its commands run. */
public final class ReadmeTests {
    private static final Checks CHECKS = new Checks("ReadmeTests");
    private static final Path FOLDER = Path.of("build", "readme");
    private static final Pattern CALL = Pattern.compile("(office\\.(\\w+)\\(.*\\));\\s+// ([^\\s:]+)(:? .*)?");

    public static void main(String[] args) throws Exception {
        String page = Files.readString(Path.of("README.md"));
        List<String> blocks = javaBlocks(page);
        CHECKS.due("README.md has its helpers and its example", blocks.size(), 2);
        if (blocks.size() == 2) {
            everyCallIsTold(page, blocks.get(1));
            everyAnswerIsSo(blocks.get(0), blocks.get(1));
        }
        everyCommandRuns(page);
        CHECKS.close();
    }

    private static List<String> javaBlocks(String page) {
        List<String> blocks = new ArrayList<>();
        Matcher block = Pattern.compile("```java\n(.*?)```", Pattern.DOTALL).matcher(page);
        while (block.find()) {
            blocks.add(block.group(1));
        }
        return blocks;
    }

    private static void everyCallIsTold(String page, String example) {
        for (Method method : CountOffice.class.getDeclaredMethods()) {
            if (Modifier.isPublic(method.getModifiers())) {
                String name = method.getName();
                CHECKS.due("README.md tells what " + name + " is for", page.contains("`" + name + "`"), true);
                CHECKS.due("the example calls " + name, example.contains("office." + name + "("), true);
            }
        }
    }

    private static void everyAnswerIsSo(String helpers, String example) throws Exception {
        StringBuilder code = new StringBuilder("public final class Example {\n");
        code.append(helpers);
        code.append("public static void main(String[] args) {\nChecks checks = new Checks(\"README.md's example\");\n");
        int calls = 0;
        for (String line : example.split("\n")) {
            Matcher call = CALL.matcher(line);
            boolean told = call.matches();
            CHECKS.due("README.md tells what this answers: " + line, told, line.startsWith("office."));
            code.append(told ? checked(call.group(1), call.group(3)) : line).append('\n');
            calls += told ? 1 : 0;
        }
        code.append("checks.close();\n}\n}\n");
        CHECKS.due("the example has calls", calls > 0, true);
        Files.createDirectories(FOLDER);
        Path file = FOLDER.resolve("Example.java");
        Files.writeString(file, code);
        String path = System.getProperty("java.class.path");
        succeeds("javac", "-d", FOLDER.toString(), "-cp", path, file.toString());
        succeeds("java", "-cp", FOLDER + System.getProperty("path.separator") + path, "Example");
    }

    private static String checked(String call, String answer) {
        String title = '"' + call.replace("\\", "\\\\").replace("\"", "\\\"") + '"';
        if (answer.equals("throws")) {
            return "{\nboolean thrown = false;\ntry {\n" + call + ";\n} catch (java.util.NoSuchElementException none) {\n"
                    + "thrown = true;\n}\nchecks.due(" + title + ", thrown, true);\n}";
        }
        return "checks.due(" + title + ", " + call + ", " + (answer.equals("-2^63") ? "Long.MIN_VALUE" : answer) + ");";
    }

    private static void everyCommandRuns(String page) throws Exception {
        CHECKS.due("README.md tells of .ci/run", page.contains("\n    .ci/run\n"), true);
        CHECKS.due(".ci/run can be run", Files.isExecutable(Path.of(".ci", "run")), true);
        String shared = oneSharedTest();
        Matcher command = Pattern.compile("\n {4}(javac? .*)").matcher(page);
        int commands = 0;
        while (command.find()) {
            succeeds("sh", "-c", command.group(1).replace("CountOfficeRuns", shared));
            commands++;
        }
        CHECKS.due("README.md tells how one test is run", commands >= 4, true);
    }

    // Which tests stand there is not this project's to say: the page names the one that it was written beside.
    private static String oneSharedTest() throws IOException {
        try (Stream<Path> files = Files.list(Path.of("..", "shared", "tests"))) {
            return files.map(file -> file.getFileName().toString()).filter(name -> name.endsWith(".java")).sorted()
                    .findFirst().orElse("CountOfficeRuns.java").replace(".java", "");
        }
    }

    private static void succeeds(String... command) throws IOException, InterruptedException {
        Process process = new ProcessBuilder(command).redirectErrorStream(true).start();
        String said = new String(process.getInputStream().readAllBytes());
        int code = process.waitFor();
        CHECKS.due(String.join(" ", command) + " ends with", code, 0);
        if (code != 0) {
            System.out.println(said);
        }
    }
}
