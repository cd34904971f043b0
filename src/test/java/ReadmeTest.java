import java.io.IOException;
import java.nio.file.Files;
import java.nio.file.Path;
import java.util.ArrayList;
import java.util.List;
import java.util.Set;
import java.util.TreeSet;
import java.util.regex.Matcher;
import java.util.regex.Pattern;
import java.util.stream.Stream;

/** README.md holds: its program compiles and prints what it says, its tables tell the calls, its list the tests. */
public final class ReadmeTest {
    private static final Pattern PROGRAM = Pattern.compile("public class (\\w+)");
    private static final Pattern PRINTS = Pattern.compile("System\\.out\\.print");
    private static final Pattern ANSWER = Pattern.compile("System\\.out\\.println\\(.*\\); *// (.*)");
    private static final Pattern ROW = Pattern.compile("(?m)^\\| `(\\w+\\([^`]*\\))` \\|");
    private static final Pattern CALL = Pattern.compile("public \\w+ (\\w+)\\(([^)]*)\\)");
    private static final Path PROJECT = Path.of(System.getProperty("project", "."));
    private static final String MAIN = "src/main/java/Vatcompiler.java";

    public static void main(String[] args) throws IOException, InterruptedException {
        String readme = Files.readString(PROJECT.resolve("README.md"));
        Checks.same("README.md", wrongIn(readme), "");
        whatIsWrongIsFound(readme);
        calls(readme);
        tests(readme);
        Checks.end("ReadmeTest");
    }

    /** Without these, a test that lets everything through would not be noticed. */
    private static void whatIsWrongIsFound(String readme) throws IOException, InterruptedException {
        Checks.same("another answer", wrongIn(readme.replace("// 00r1a", "// 00r1b")).isEmpty(), false);
        Checks.same("a line without an answer", wrongIn(readme.replace("// 00r1a", "")).isEmpty(), false);
        Checks.same("a call that is not there", wrongIn(readme.replace("street.steps(", "street.stops(")).isEmpty(), false);
        Checks.same("a call that throws", wrongIn(readme.replace("street.steps(plum)", "street.steps(9)")).isEmpty(), false);
        Checks.same("a command that fails", wrongIn(readme.replace("java -cp out", "java -cp in")).isEmpty(), false);
    }

    /** What is wrong with what the page shows as a use; "" if all is as it says. */
    private static String wrongIn(String readme) throws IOException, InterruptedException {
        List<String> programs = fenced(readme, "java");
        List<String> commands = fenced(readme, "sh");
        if (programs.size() != 1 || commands.size() != 1) {
            return "not one program and its commands";
        }
        String program = programs.get(0);
        List<String> due = all(ANSWER, program);
        Matcher name = PROGRAM.matcher(program);
        if (!name.find() || due.isEmpty() || due.size() != PRINTS.matcher(program).results().count()) {
            return "no program, or a line that prints does not tell what";
        }
        Path place = Files.createTempDirectory("readme");
        try {
            Files.createDirectories(place.resolve(MAIN).getParent());
            Files.copy(PROJECT.resolve(MAIN), place.resolve(MAIN));
            Files.writeString(place.resolve(name.group(1) + ".java"), program);
            return difference(printed(place, commands.get(0)), due);
        } finally {
            remove(place);
        }
    }

    private static List<String> fenced(String text, String language) {
        return all(Pattern.compile("(?ms)^```" + language + "\\n(.*?)^```$"), text);
    }

    private static List<String> all(Pattern pattern, String text) {
        return pattern.matcher(text).results().map(found -> found.group(1).strip()).toList();
    }

    private static List<String> printed(Path place, String commands) throws IOException, InterruptedException {
        List<String> printed = new ArrayList<>();
        for (String command : commands.split("\n")) {
            Process process = new ProcessBuilder(command.split(" ")).directory(place.toFile()).redirectErrorStream(true).start();
            new String(process.getInputStream().readAllBytes()).lines().forEach(printed::add);
            if (process.waitFor() != 0) {
                printed.add(command + " ended with " + process.exitValue());
            }
        }
        return printed;
    }

    private static String difference(List<String> got, List<String> due) {
        for (int k = 0; k < Math.max(got.size(), due.size()); k++) {
            String gotLine = k < got.size() ? got.get(k) : "nothing";
            String dueLine = k < due.size() ? due.get(k) : "nothing";
            if (!gotLine.equals(dueLine)) {
                return "line " + (k + 1) + " printed is " + gotLine + ", README.md says " + dueLine;
            }
        }
        return "";
    }

    private static void remove(Path place) throws IOException {
        try (Stream<Path> paths = Files.walk(place)) {
            for (Path path : paths.sorted((one, other) -> other.compareTo(one)).toList()) {
                Files.delete(path);
            }
        }
    }

    private static void calls(String readme) throws IOException {
        String document = Files.readString(PROJECT.resolve("../shared/DOC.md"));
        Set<String> due = new TreeSet<>();
        Matcher call = CALL.matcher(fenced(document, "java").get(0));
        while (call.find()) {
            due.add(call.group(1) + "(" + call.group(2).replaceAll("(^|, )\\w+ ", "$1") + ")");
        }
        Checks.same("the calls in the tables", new TreeSet<>(all(ROW, readme)), due);
        Checks.same("how many calls", due.size(), 27);
    }

    private static void tests(String readme) throws IOException {
        Set<String> due = new TreeSet<>();
        try (Stream<Path> files = Files.list(PROJECT.resolve("src/test/java"))) {
            files.map(file -> file.getFileName().toString()).filter(name -> name.endsWith("Test.java"))
                .forEach(name -> due.add(name.replace(".java", "")));
        }
        String list = readme.substring(readme.indexOf("\n## Tests"));
        Checks.same("the tests in the list", new TreeSet<>(all(Pattern.compile("`(\\w+Test)`"), list)), due);
        Checks.same("how the tests are run", list.contains("    .ci/run\n"), true);
    }
}
