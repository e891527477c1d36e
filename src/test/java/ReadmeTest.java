import java.io.ByteArrayOutputStream;
import java.io.File;
import java.io.IOException;
import java.io.InputStream;
import java.lang.reflect.Method;
import java.lang.reflect.Modifier;
import java.nio.charset.StandardCharsets;
import java.nio.file.Files;
import java.nio.file.Path;
import java.nio.file.Paths;
import java.util.ArrayList;
import java.util.Arrays;
import java.util.Comparator;
import java.util.HashMap;
import java.util.List;
import java.util.Map;
import java.util.TreeSet;
import java.util.regex.Matcher;
import java.util.regex.Pattern;
import java.util.stream.Collectors;
import java.util.stream.Stream;

/**
 * README.md as it stands there: its commands are run, its lines of Java are compiled and run, with what they
 * answer, and its tables name all calls with their exceptions, and all tests.
 */
public final class ReadmeTest {
    private static final String README = "README.md";
    private static final String TESTS = "src/test/java";
    /** It runs this test itself. */
    private static final String ALL_TESTS = ".ci/run";
    private static final Pattern TOLD = Pattern.compile("(\\s*)((?:int|boolean) (\\w+) = )?(.*); +// ([^:]*)(:.*)?");
    private static final Pattern PRINTED = Pattern.compile("System\\.out\\.println\\((.*)\\)");

    private final List<String[]> blocks = new ArrayList<>();
    private final String text;
    private final Path work;

    private ReadmeTest(Path work) throws IOException {
        this.work = work;
        text = new String(Files.readAllBytes(Paths.get(README)), StandardCharsets.UTF_8);
        Matcher block = Pattern.compile("(?ms)^```(\\w+)\\n(.*?)^```$").matcher(text);
        while (block.find()) {
            blocks.add(new String[] {block.group(1), block.group(2)});
        }
    }

    /** Runs a command of the shell and answers its exit code and, behind that, what it prints. */
    private String outputOf(String command) throws IOException, InterruptedException {
        ProcessBuilder builder = new ProcessBuilder("sh", "-e", "-c", command);
        builder.environment().put("TMPDIR", work.toString());
        // What the machine itself tells, such as the options that it picks up, is no answer.
        Process process = builder.redirectError(ProcessBuilder.Redirect.INHERIT).start();
        ByteArrayOutputStream told = new ByteArrayOutputStream();
        try (InputStream output = process.getInputStream()) {
            output.transferTo(told);
        }
        return process.waitFor() + "\n" + new String(told.toByteArray(), StandardCharsets.UTF_8);
    }

    /** Each block of commands ends well, and tells what the block of text behind it says. */
    private void testCommands(Due due) throws IOException, InterruptedException {
        int commands = 0;
        for (int i = 0; i < blocks.size(); i++) {
            String command = blocks.get(i)[1];
            if (command.trim().equals(ALL_TESTS)) {
                due.is("can be run: " + ALL_TESTS, 1, () -> new File(ALL_TESTS).canExecute() ? 1 : 0);
                commands++;
            } else if (blocks.get(i)[0].equals("sh")) {
                String told = outputOf(command);
                boolean isText = i + 1 < blocks.size() && blocks.get(i + 1)[0].equals("text");
                due.isAnswer("the exit code of " + command, "0", told.substring(0, told.indexOf('\n')));
                due.isAnswer("what is told by " + command, isText ? "0\n" + blocks.get(i + 1)[1] : told, told);
                commands++;
            }
        }
        int count = commands;
        due.is("blocks of commands", 3, () -> count);
    }

    /** A line that tells its answer, as one that checks it. */
    private static String checked(String line) {
        Matcher told = TOLD.matcher(line);
        if (!told.matches()) {
            return line;
        }
        Matcher printed = PRINTED.matcher(told.group(4));
        String asked = told.group(2) != null ? told.group(3) : printed.matches() ? printed.group(1) : told.group(4);
        String before = told.group(2) != null ? told.group(2) + told.group(4) + "; " : "";
        String call = told.group(4).replace("\"", "\\\"");
        return before + "check(\"" + call + "\", \"\" + (" + asked + "), \"" + told.group(5).trim() + "\");";
    }

    /** All lines of Java go on from one to the next, and answer what they tell. */
    private void testJava(Due due) throws IOException, InterruptedException {
        StringBuilder body = new StringBuilder();
        int answers = 0;
        for (String[] block : blocks) {
            for (String line : block[0].equals("java") ? block[1].split("\n") : new String[0]) {
                body.append("        ").append(checked(line)).append('\n');
                answers += TOLD.matcher(line).matches() ? 1 : 0;
            }
        }
        String program = "public final class Lines {\n"
            + "    private static void check(String call, String got, String want) {\n"
            + "        System.out.println(got.equals(want) ? \"right\" : call + \" answered \" + got + \", told is \" + want);\n"
            + "    }\n\n"
            + "    public static void main(String[] args) {\n" + body + "    }\n}\n";
        Files.write(work.resolve("Lines.java"), program.getBytes(StandardCharsets.UTF_8));
        String told = outputOf("javac -Xlint:all -d \"$TMPDIR\" src/main/java/QueryLoft.java \"$TMPDIR/Lines.java\"\n"
            + "java -cp \"$TMPDIR\" Lines");
        String[] lines = told.split("\n");
        due.isAnswer("the exit code of the lines of Java", "0", lines[0]);
        for (int i = 1; i < lines.length; i++) {
            due.isAnswer("a line of Java", "right", lines[i]);
        }
        int want = answers;
        due.is("answers", want, () -> lines.length - 1);
        due.is("enough answers", 1, () -> want > 40 ? 1 : 0);
    }

    /** Each call has its row, with its arguments and with a cell for each exception that it throws. */
    private void testTableOfExceptions(Due due) throws IOException {
        String document = new String(Files.readAllBytes(Paths.get("../shared/DOC.md")), StandardCharsets.UTF_8);
        String[] columns = {"IndexOutOfBoundsException", "IllegalArgumentException", "IllegalStateException"};
        Map<String, List<String>> rows = new HashMap<>();
        Matcher row = Pattern.compile("(?m)^\\| `(\\w+)\\(([^`]*)\\)` \\|(.*)\\|(.*)\\|(.*)\\|$").matcher(text);
        while (row.find()) {
            List<String> thrown = new ArrayList<>();
            for (int i = 0; i < columns.length; i++) {
                if (!row.group(i + 3).trim().isEmpty()) {
                    thrown.add(columns[i]);
                }
            }
            rows.put(row.group(1), thrown);
            String told = row.group(1) + "\\(" + row.group(2).replaceAll("\\w+", "int $0") + "\\)";
            due.is("stands in the document: " + told, 1, () -> Pattern.compile(told).matcher(document).find() ? 1 : 0);
        }
        TreeSet<String> calls = new TreeSet<>();
        for (Method method : QueryLoft.class.getDeclaredMethods()) {
            if (Modifier.isPublic(method.getModifiers())) {
                calls.add(method.getName());
                List<String> declared = Arrays.stream(method.getExceptionTypes()).map(Class::getSimpleName)
                    .collect(Collectors.toList());
                due.isAnswer("what " + method.getName() + " throws", "" + declared, "" + rows.get(method.getName()));
            }
        }
        due.isAnswer("calls with a row", "" + calls, "" + new TreeSet<>(rows.keySet()));
    }

    /** Each call stands in the heading of a group, and each test in the table of tests. */
    private void testNames(Due due) throws IOException {
        StringBuilder headings = new StringBuilder();
        Matcher heading = Pattern.compile("(?m)^### .*$").matcher(text);
        while (heading.find()) {
            headings.append(heading.group()).append('\n');
        }
        for (Method method : QueryLoft.class.getDeclaredMethods()) {
            if (Modifier.isPublic(method.getModifiers())) {
                String name = "`" + method.getName() + "`";
                due.is("a group has " + name, 1, () -> headings.indexOf(name) >= 0 ? 1 : 0);
            }
        }
        TreeSet<String> tests = new TreeSet<>();
        for (String file : new File(TESTS).list()) {
            String name = file.replace(".java", "");
            if (name.endsWith("Test")) {
                tests.add(name);
            }
        }
        TreeSet<String> told = new TreeSet<>();
        Matcher row = Pattern.compile("(?m)^\\| `(\\w+)` \\| .* \\|$").matcher(text.substring(text.indexOf("| Test |")));
        while (row.find()) {
            told.add(row.group(1));
        }
        due.isAnswer("the table of tests", "" + tests, "" + told);
    }

    private static void remove(Path work) throws IOException {
        try (Stream<Path> files = Files.walk(work)) {
            for (Path file : files.sorted(Comparator.reverseOrder()).collect(Collectors.toList())) {
                Files.delete(file);
            }
        }
    }

    public static void main(String[] args) throws IOException, InterruptedException {
        Due due = new Due("ReadmeTest");
        Path work = Files.createTempDirectory("readme");
        try {
            ReadmeTest test = new ReadmeTest(work);
            test.testCommands(due);
            test.testJava(due);
            test.testTableOfExceptions(due);
            test.testNames(due);
        } finally {
            remove(work);
        }
        due.end();
    }
}
