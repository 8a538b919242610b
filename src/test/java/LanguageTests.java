import java.nio.file.Files;
import java.nio.file.Path;
import java.util.List;
import java.util.regex.Matcher;
import java.util.regex.Pattern;

/** The text of the class keeps to LANGUAGE.md, as far as a look at its lines can tell. */
public final class LanguageTests {
    private static final Checks CHECKS = new Checks("LanguageTests");
    private static final String[] NEVER = {
        "\\bpackage\\b", "->", "::", "\\bfinally\\b", "\\bsynchronized\\b", "\\bassert\\b", "\\bvolatile\\b",
        "\\btransient\\b", "\\bnative\\b", "\\bstrictfp\\b", "\\bcatch\\b", "\\btry\\b", "\\bextends\\b", "\\bimplements\\b",
        "\\bdouble\\b", "\\bfloat\\b", "\\bObject\\b", "\\bString\\b", "\\bvar\\b", "\\bthis\\s*;", "Exact\\b", "\\bHash", "\\bTree",
        "\\bRandom\\b", "\\bThread\\b", "\\bScanner\\b", "nanoTime", "currentTimeMillis", "getenv", "getProperty",
        "\\bstatic\\s*\\{", "\\bprotected\\b", "\"\\s*\\+|\\+\\s*\"", "while\\s*\\(\\s*true", "for\\s*\\(\\s*;\\s*;",
        "\\bLong\\.(MIN|MAX|SIZE)", "\\bInteger\\.(MIN|MAX|SIZE)", "\\[\\]\\[\\]\\[\\]"};
    private static final List<String> LIBRARY = List.of("Arrays.fill", "System.arraycopy", "Math.min", "Math.max",
            "Math.abs", "Long.bitCount", "Integer.bitCount");

    public static void main(String[] args) throws Exception {
        List<String> lines = Files.readAllLines(Path.of("src/main/java/CountOffice.java"));
        StringBuilder code = new StringBuilder();
        for (String line : lines) {
            CHECKS.due("signs 1 to 127 alone: " + line, line.chars().allMatch(c -> c < 128), true);
            String bare = line.replaceAll("//.*", "").replaceAll("^\\s*/\\*\\*.*\\*/", "");
            code.append(bare).append('\n');
            for (String never : NEVER) {
                CHECKS.due("no " + never + ": " + line, Pattern.compile(never).matcher(bare).find(), false);
            }
        }
        imports(lines);
        library(code.toString());
        methods(code.toString());
        CHECKS.close();
    }

    private static void imports(List<String> lines) {
        for (String line : lines) {
            if (line.startsWith("import")) {
                CHECKS.due(line, line.equals("import java.util.Arrays;")
                        || line.equals("import java.util.NoSuchElementException;"), true);
            }
        }
    }

    private static void library(String code) {
        Matcher calls = Pattern.compile("\\b(Arrays|System|Math|Long|Integer|Character|Byte|Boolean)\\.(\\w+)").matcher(code);
        while (calls.find()) {
            CHECKS.due(calls.group(), LIBRARY.contains(calls.group()), true);
        }
        Matcher made = Pattern.compile("\\bnew (\\w+)\\s*([\\[(])").matcher(code);
        while (made.find()) {
            String name = made.group(1);
            CHECKS.due("new " + name, name.matches("int|long|byte|NoSuchElementException")
                    || code.contains("class " + name + " {"), true);
        }
        Matcher thrown = Pattern.compile("\\bthrow\\b(.*)").matcher(code);
        while (thrown.find()) {
            CHECKS.due("throw" + thrown.group(1), thrown.group(1).equals(" new NoSuchElementException();"), true);
        }
    }

    /** No method is longer than sixty lines. */
    private static void methods(String code) {
        String[] lines = code.split("\n");
        for (int k = 0; k < lines.length; k++) {
            Matcher head = Pattern.compile("^( +)[\\w\\[\\] ]+\\([^;]*\\{$").matcher(lines[k]);
            if (head.find() && !lines[k].trim().matches("(if|for|while|switch|else|\\}).*")) {
                int end = k;
                while (end < lines.length && !lines[end].equals(head.group(1) + "}")) {
                    end++;
                }
                CHECKS.due(lines[k].trim() + " has sixty lines at most, not " + (end - k + 1), end - k + 1 <= 60, true);
            }
        }
    }
}
