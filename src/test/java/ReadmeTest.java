import java.io.IOException;
import java.lang.reflect.Method;
import java.nio.file.Files;
import java.nio.file.Path;
import java.util.ArrayList;
import java.util.Comparator;
import java.util.List;
import java.util.regex.Matcher;
import java.util.regex.Pattern;
import java.util.stream.Collectors;
import java.util.stream.Stream;

/** What README.md says of the class's use and of its tests is so; run from the project's folder. */
public final class ReadmeTest {
    private static final String RUN_ALL = ".ci/run";
    private static final Pattern BLOCK = Pattern.compile("```(java|sh)\n(.*?)```", Pattern.DOTALL);
    private static final Pattern ANSWER = Pattern.compile("show\\(x\\..*; +// (-?\\d+): ");
    private static final Due due = new Due();

    public static void main(String[] args) throws IOException, InterruptedException {
        String page = Files.readString(Path.of("README.md"));
        List<String> programs = blocks(page, "java");
        List<String> commands = blocks(page, "sh");
        due.is("one program stands there", programs.size(), 1);
        due.is("three rows of commands stand there", commands.size(), 3);
        if (due.isAllWell()) {
            Path folder = Files.createTempDirectory("readme");
            copyTree(Path.of("src"), folder.resolve("src"));
            Files.writeString(folder.resolve("Example.java"), programs.get(0));
            printsWhatItSays(programs.get(0), answerOf(folder, commands.get(0)));
            // This test is itself a part of what that script runs.
            due.is("all tests are run by " + RUN_ALL, commands.get(1).trim().equals(RUN_ALL) ? 1 : 0, 1);
            due.is(RUN_ALL + " may be run", Files.isExecutable(Path.of(RUN_ALL)) ? 1 : 0, 1);
            answerOf(folder, commands.get(2));
            remove(folder);
        }
        namesEveryCall(page);
        due.end();
    }

    private static List<String> blocks(String page, String language) {
        List<String> found = new ArrayList<>();
        Matcher block = BLOCK.matcher(page);
        while (block.find()) {
            if (block.group(1).equals(language)) {
                found.add(block.group(2));
            }
        }
        return found;
    }

    private static void printsWhatItSays(String program, List<String> printed) {
        List<String> said = new ArrayList<>();
        Matcher answer = ANSWER.matcher(program);
        while (answer.find()) {
            said.add(answer.group(1));
        }
        due.is("each row that shows an answer says which", said.size(), program.split("show\\(x\\.", -1).length - 1);
        due.is("it says " + said + " and prints " + printed, said.equals(printed) ? 1 : 0, 1);
    }

    private static void namesEveryCall(String page) {
        for (Method call : Calls.all()) {
            due.is(call.getName() + " is named in the table", page.contains("`" + call.getName() + "`") ? 1 : 0, 1);
        }
    }

    /** The lines that commands print; they must end with 0. */
    private static List<String> answerOf(Path folder, String commands) throws IOException, InterruptedException {
        Path printed = folder.resolve("printed");
        // Else a row that fails ahead of the last one would not be seen.
        Process process = new ProcessBuilder("sh", "-e", "-c", commands).directory(folder.toFile())
            .redirectErrorStream(true).redirectOutput(printed.toFile()).start();
        List<String> lines = process.waitFor() == 0 ? Files.readAllLines(printed) : null;
        due.is(commands + " ends with 0, and prints " + Files.readString(printed), lines == null ? 0 : 1, 1);
        return lines == null ? List.of() : lines;
    }

    private static void copyTree(Path from, Path to) throws IOException {
        for (Path file : tree(from)) {
            Files.copy(file, to.resolve(from.relativize(file).toString()));
        }
    }

    private static void remove(Path folder) throws IOException {
        List<Path> files = tree(folder);
        files.sort(Comparator.reverseOrder());
        for (Path file : files) {
            Files.delete(file);
        }
    }

    private static List<Path> tree(Path folder) throws IOException {
        try (Stream<Path> files = Files.walk(folder)) {
            return files.collect(Collectors.toCollection(ArrayList::new));
        }
    }
}
