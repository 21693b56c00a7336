import java.io.IOException;
import java.lang.reflect.Method;
import java.lang.reflect.Modifier;
import java.nio.file.Files;
import java.nio.file.Path;
import java.util.ArrayList;
import java.util.Comparator;
import java.util.LinkedHashMap;
import java.util.List;
import java.util.Map;
import java.util.Set;
import java.util.TreeSet;
import java.util.regex.Matcher;
import java.util.regex.Pattern;
import java.util.stream.Stream;

/** README.md: the answers of its example, its commands as they stand, and its lists of calls and tests. */
public final class ReadmeTest {
    private static final Checks CHECKS = new Checks("ReadmeTest");
    private static final Pattern CLASS_NAME = Pattern.compile("public final class (\\w+)");
    private static final Pattern PRINTED = Pattern.compile("System\\.out\\.println\\(.*\\);\\s+// (-?\\w+)");
    private static final Pattern PROGRAM = Pattern.compile("java -cp \\S+ (\\w+).*");
    private static final Pattern QUOTED = Pattern.compile("`([^`]+)`");
    /** It runs this test, and so is tried by that; from here it would run itself without an end. */
    private static final String CI = ".ci/run";

    private final Path root;
    private final List<String> page;
    /** For each example what its comments say that it prints. */
    private final Map<String, List<String>> answers = new LinkedHashMap<>();

    private ReadmeTest(Path root) throws IOException {
        this.root = root;
        page = Files.readAllLines(root.resolve("README.md"));
    }

    public static void main(String[] args) throws Exception {
        ReadmeTest test = new ReadmeTest(Path.of(args[0]));
        Path copy = Files.createTempDirectory("readme");
        try {
            test.copySources(copy);
            test.saveExamples(copy);
            test.commandsRun(copy);
        } finally {
            remove(copy);
        }
        test.callsAreThoseOfTheFace();
        test.callsStandAsInTheDocument();
        test.testsAreThoseOfTheProject();
        CHECKS.end();
    }

    // ---- the page

    /** The lines between the fences of the blocks of one kind. */
    private List<List<String>> blocks(String kind) {
        List<List<String>> all = new ArrayList<>();
        boolean isIn = false;
        for (String line : page) {
            if (line.equals("```" + kind)) {
                isIn = true;
                all.add(new ArrayList<>());
            } else if (line.equals("```")) {
                isIn = false;
            } else if (isIn) {
                all.get(all.size() - 1).add(line);
            }
        }
        return all;
    }

    /** The rows of the table with this head. */
    private List<String> table(String head) {
        List<String> rows = new ArrayList<>();
        for (int i = page.indexOf(head) + 2; i < page.size() && page.get(i).startsWith("|"); i++) {
            rows.add(page.get(i));
        }
        return rows;
    }

    private static List<String> quoted(String text, String pattern) {
        List<String> all = new ArrayList<>();
        Matcher matcher = QUOTED.matcher(text);
        while (matcher.find()) {
            if (matcher.group(1).matches(pattern)) {
                all.add(matcher.group(1));
            }
        }
        return all;
    }

    // ---- the example and the commands, tried in a copy of the project

    private void copySources(Path copy) throws IOException {
        try (Stream<Path> files = Files.walk(root.resolve("src"))) {
            for (Path file : (Iterable<Path>) files::iterator) {
                Files.copy(file, copy.resolve(root.relativize(file)));
            }
        }
    }

    private static void remove(Path copy) throws IOException {
        try (Stream<Path> files = Files.walk(copy).sorted(Comparator.reverseOrder())) {
            for (Path file : (Iterable<Path>) files::iterator) {
                Files.delete(file);
            }
        }
    }

    private void saveExamples(Path copy) throws IOException {
        for (List<String> lines : blocks("java")) {
            String source = String.join("\n", lines) + "\n";
            Matcher name = CLASS_NAME.matcher(source);
            CHECKS.due("an example is a class", name.find(), true);
            Files.writeString(copy.resolve(name.group(1) + ".java"), source);
            answers.put(name.group(1), answersIn(lines));
        }
        CHECKS.due("there is an example", !answers.isEmpty(), true);
    }

    private static List<String> answersIn(List<String> lines) {
        List<String> all = new ArrayList<>();
        for (String line : lines) {
            Matcher printed = PRINTED.matcher(line);
            boolean hasAnswer = printed.find();
            CHECKS.due("its answer is told: " + line.strip(), hasAnswer, line.contains("System.out"));
            if (hasAnswer) {
                all.add(printed.group(1));
            }
        }
        return all;
    }

    private void commandsRun(Path copy) throws Exception {
        Set<String> tried = new TreeSet<>();
        boolean isCiTold = false;
        for (List<String> commands : blocks("sh")) {
            for (String command : commands) {
                if (command.equals(CI)) {
                    isCiTold = true;
                    CHECKS.due(CI + " can be run", Files.isExecutable(root.resolve(CI)), true);
                    continue;
                }
                String output = run(copy, command);
                Matcher program = PROGRAM.matcher(command);
                if (program.matches() && answers.containsKey(program.group(1))) {
                    tried.add(program.group(1));
                    CHECKS.due(command, output.strip(), String.join("\n", answers.get(program.group(1))));
                }
            }
        }
        CHECKS.due("the examples that are run", tried.toString(), new TreeSet<>(answers.keySet()).toString());
        CHECKS.due("it tells how to run all tests", isCiTold, true);
    }

    private static String run(Path directory, String command) throws Exception {
        Process process = new ProcessBuilder("sh", "-c", command).directory(directory.toFile())
                .redirectErrorStream(true).start();
        String output = new String(process.getInputStream().readAllBytes());
        int code = process.waitFor();
        CHECKS.due(command + " ends with", code, 0);
        if (code != 0) {
            System.out.println(output);
        }
        return output;
    }

    // ---- the lists

    private List<String> rowsOfCalls() {
        return table("| Of | Calls |");
    }

    private void callsAreThoseOfTheFace() {
        Set<String> face = new TreeSet<>();
        for (Method method : PatchBench.class.getDeclaredMethods()) {
            if (Modifier.isPublic(method.getModifiers())) {
                face.add(method.getName());
            }
        }
        List<String> told = new ArrayList<>();
        for (String row : rowsOfCalls()) {
            told.addAll(quoted(row, "[a-z]\\w*"));
        }
        CHECKS.due("the calls", new TreeSet<>(told).toString(), face.toString());
        CHECKS.due("each call once", told.size(), face.size());
    }

    /** The document says above which calls a heading stands; so does a row of the page. */
    private void callsStandAsInTheDocument() throws IOException {
        Path document = root.resolve("../shared/DOC.md");
        if (!Files.exists(document)) {
            System.out.println("ReadmeTest: there is no document at " + document);
            return;
        }
        List<String> want = new ArrayList<>();
        for (String line : Files.readAllLines(document)) {
            if (line.startsWith("Ahead of the calls ")) {
                String heading = line.replaceAll(".*---- (.*)\\.", "$1");
                want.add(heading + " " + quoted(line, "[a-z]\\w*"));
            }
        }
        List<String> got = new ArrayList<>();
        for (String row : rowsOfCalls()) {
            got.add(row.split("\\|")[1].strip() + " " + quoted(row, "[a-z]\\w*"));
        }
        CHECKS.due("the rows of calls", got.toString(), want.toString());
    }

    private void testsAreThoseOfTheProject() throws IOException {
        Set<String> want = new TreeSet<>();
        try (Stream<Path> files = Files.list(root.resolve("src/test/java"))) {
            for (Path file : (Iterable<Path>) files::iterator) {
                String name = file.getFileName().toString();
                if (name.endsWith("Test.java")) {
                    want.add(name.replace(".java", ""));
                }
            }
        }
        List<String> told = new ArrayList<>();
        for (String row : table("| Test | What it looks at |")) {
            told.addAll(quoted(row, "\\w+Test"));
        }
        CHECKS.due("the tests", new TreeSet<>(told).toString(), want.toString());
        CHECKS.due("each test once", told.size(), want.size());
    }
}
