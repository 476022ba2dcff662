import java.lang.reflect.Modifier;
import java.nio.file.Files;
import java.nio.file.Path;
import java.util.ArrayList;
import java.util.Comparator;
import java.util.List;
import java.util.Set;
import java.util.TreeSet;
import java.util.regex.Matcher;
import java.util.regex.Pattern;
import java.util.stream.Stream;

/** What README.md says of the class's use and of its tests holds when it is done word for word. */
public final class ReadmeTest {
    private static final String FOLDER = "/tmp/urn";
    private static final Pattern BLOCK = Pattern.compile("(?ms)^```(\\w+)\\n(.*?)^```$");
    private static final Pattern QUOTED = Pattern.compile("`(\\w+)(?:\\(\\w*\\))?`");

    private static int wrong = 0;

    public static void main(String[] args) throws Exception {
        String page = Files.readString(Path.of("README.md"));
        Path folder = Files.createTempDirectory("urn");
        try {
            int commands = doAll(page, folder);
            lookForForgotten(page);
            System.out.println("ReadmeTest: " + commands + " blocks of commands, " + wrong + " wrong");
        } finally {
            remove(folder);
        }
        if (wrong != 0) {
            System.exit(1);
        }
    }

    private static void fault(String what) {
        wrong++;
        System.out.println("ReadmeTest: " + what);
    }

    /** The first commands compile the example and run it; the text behind them is what it prints. */
    private static int doAll(String page, Path folder) throws Exception {
        Files.writeString(folder.resolve("Example.java"), blocks(page, "java").get(0));
        List<String> commands = blocks(page, "sh");
        String printed = "";
        for (int i = 0; i < commands.size(); i++) {
            String command = commands.get(i);
            if (command.contains(".ci/run") || command.contains("Mutants")) {
                lookAtFiles(command, folder);
                continue;
            }
            String output = done(command.replace(FOLDER, folder.toString()));
            printed = i == 0 ? output : printed;
        }
        String due = blocks(page, "text").get(0);
        if (!printed.equals(due)) {
            fault("the example printed\n" + printed + "and due is\n" + due);
        }
        return commands.size();
    }

    /** .ci/run runs this test, and breaking the program takes minutes: both are only looked at. */
    private static void lookAtFiles(String command, Path folder) throws Exception {
        for (String word : command.trim().split("\\s+")) {
            if (word.contains("/") && !Files.isRegularFile(Path.of(word))) {
                fault("there is no " + word);
            }
            if (word.startsWith(".") && !Files.isExecutable(Path.of(word))) {
                fault(word + " cannot be run");
            }
            if (word.endsWith(".java")) {
                done("javac -d " + folder.resolve("looked") + " " + word);
            }
        }
    }

    private static void lookForForgotten(String page) throws Exception {
        Set<String> told = new TreeSet<>();
        Matcher quoted = QUOTED.matcher(page);
        while (quoted.find()) {
            told.add(quoted.group(1));
        }
        Set<String> due = new TreeSet<>();
        Stream.of(UrnHeap.class.getDeclaredMethods()).filter(method -> Modifier.isPublic(method.getModifiers()))
                .forEach(method -> due.add(method.getName()));
        Stream.of(UrnHeap.class.getDeclaredFields()).filter(field -> Modifier.isPublic(field.getModifiers()))
                .forEach(field -> due.add(field.getName()));
        try (Stream<Path> tests = Files.list(Path.of("src/test/java"))) {
            tests.forEach(test -> due.add(test.getFileName().toString().replace(".java", "")));
        }
        Set<String> forgotten = new TreeSet<>(due);
        forgotten.removeAll(told);
        told.removeAll(due);
        if (!forgotten.isEmpty() || !told.isEmpty()) {
            fault("not told: " + forgotten + ", told but not there: " + told);
        }
    }

    private static List<String> blocks(String page, String language) {
        List<String> blocks = new ArrayList<>();
        Matcher block = BLOCK.matcher(page);
        while (block.find()) {
            if (block.group(1).equals(language)) {
                blocks.add(block.group(2));
            }
        }
        return blocks;
    }

    private static String done(String command) throws Exception {
        Process process = new ProcessBuilder("sh", "-e", "-c", command).redirectError(ProcessBuilder.Redirect.INHERIT).start();
        String output = new String(process.getInputStream().readAllBytes());
        if (process.waitFor() != 0) {
            fault("failed: " + command + output);
        }
        return output;
    }

    private static void remove(Path folder) throws Exception {
        try (Stream<Path> files = Files.walk(folder)) {
            for (Path file : files.sorted(Comparator.reverseOrder()).toList()) {
                Files.delete(file);
            }
        }
    }
}
