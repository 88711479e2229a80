import java.io.File;
import java.io.IOException;
import java.lang.reflect.Method;
import java.lang.reflect.Modifier;
import java.nio.charset.StandardCharsets;
import java.nio.file.Files;
import java.nio.file.Path;
import java.util.ArrayList;
import java.util.List;
import java.util.TreeSet;
import java.util.regex.Matcher;
import java.util.regex.Pattern;

/** What README.md says of how to use the class and how to run its tests has to hold for the files as they are. */
public final class ReadmeIsTrue {
    private static final Path PAGE = Path.of("README.md");
    private static final Path EXAMPLE = Path.of("src/example/java/Example.java");
    private static final Pattern BLOCK = Pattern.compile("^```([a-z]+)\n(.*?)^```$", Pattern.MULTILINE | Pattern.DOTALL);
    private static final Pattern NAMED = Pattern.compile("`([^`\n]+)`");

    public static void main(String[] args) throws IOException, InterruptedException {
        String page = read(PAGE);
        example(page);
        commands(page);
        calls(page);
        constants(page);
        files(page);
        Check.end();
    }

    private static String read(Path path) throws IOException {
        return Files.exists(path) ? Files.readString(path, StandardCharsets.UTF_8) : "";
    }

    private static List<String> blocks(String page, String kind) {
        List<String> found = new ArrayList<>();
        Matcher block = BLOCK.matcher(page);
        while (block.find()) {
            if (block.group(1).equals(kind)) {
                found.add(block.group(2));
            }
        }
        return found;
    }

    private static void example(String page) throws IOException {
        List<String> shown = blocks(page, "java");
        Check.due("README: one example", shown.size(), 1);
        Check.due("README: the example", String.join("", shown), read(EXAMPLE));
    }

    private static void commands(String page) throws IOException, InterruptedException {
        List<String> shown = blocks(page, "sh");
        List<String> answers = blocks(page, "text");
        Check.due("README: commands", shown.size(), 3);
        Check.due("README: answers", answers.size(), 1);
        if (shown.size() == 3 && answers.size() == 1) {
            Check.due("README: what the example answers", answerOf(shown.get(0)), answers.get(0) + "ends with 0");
            Check.due("README: the command for all tests", shown.get(1), ".ci/run\n");
            Check.due("README: one test alone", answerOf(shown.get(2)), "all answers are as due\nends with 0");
        }
        Check.due("README: all tests can be run", Files.isExecutable(Path.of(".ci/run")), true);
    }

    private static String answerOf(String commands) throws IOException, InterruptedException {
        Process process = new ProcessBuilder("sh", "-e", "-c", commands)
            .redirectError(ProcessBuilder.Redirect.INHERIT).start();
        process.getOutputStream().close();
        String answer = new String(process.getInputStream().readAllBytes(), StandardCharsets.UTF_8);
        return answer + "ends with " + process.waitFor();
    }

    private static void calls(String page) {
        TreeSet<String> told = new TreeSet<>();
        for (String line : page.split("\n")) {
            if (line.startsWith("|")) {
                told.addAll(named(line));
            }
        }
        TreeSet<String> due = new TreeSet<>();
        for (Method method : SearchMill.class.getDeclaredMethods()) {
            if (Modifier.isPublic(method.getModifiers())) {
                due.add(method.getName());
            }
        }
        Check.due("README: the calls", told.toString(), due.toString());
    }

    private static void constants(String page) {
        Check.due("README: NONE", page.contains("`NONE` (" + SearchMill.NONE + ")"), true);
        Check.due("README: DOWN", page.contains("`DOWN` (" + SearchMill.DOWN + ")"), true);
    }

    private static List<String> named(String text) {
        List<String> found = new ArrayList<>();
        Matcher name = NAMED.matcher(text);
        while (name.find()) {
            found.add(name.group(1));
        }
        return found;
    }

    /** Files are there, and kinds of tests, told by their names or the beginnings or ends of these. */
    private static void files(String page) {
        String[] tests = new File("src/test/java").list();
        TreeSet<String> untold = new TreeSet<>(List.of(tests == null ? new String[0] : tests));
        for (String name : named(BLOCK.matcher(page).replaceAll(""))) {
            if (name.contains("/")) {
                Check.due("README: there is " + name, Files.exists(Path.of(name)), true);
            } else {
                Pattern told = Pattern.compile(name.replaceAll("[^A-Za-z*]", "").replace("*", "[A-Za-z]*") + "\\.java");
                untold.removeIf(test -> told.matcher(test).matches());
            }
        }
        Check.due("README: tests that it does not tell of", untold.toString(), "[]");
    }
}
