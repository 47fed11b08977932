import java.io.File;
import java.io.IOException;
import java.nio.file.Files;
import java.nio.file.Path;
import java.util.ArrayList;
import java.util.Comparator;
import java.util.List;
import java.util.TreeSet;
import java.util.regex.Matcher;
import java.util.regex.Pattern;
import java.util.stream.Stream;

/** README.md: what it shows of the class answers as it says, and what it says of the tests runs. */
public final class ReadmeTest {
    private static final Path README = Path.of("README.md");
    private static final Path TESTS = Path.of("src", "test", "java");
    private static final Pattern SHOWN = Pattern.compile("(x\\..*\\));\\s*// (throws )?(-?[0-9]+|true|false|[A-Z]\\w*)\\b.*");
    private static final Pattern CALL = Pattern.compile("\\bx\\.(\\w+)\\(");

    public static void main(String[] args) throws Exception {
        List<String> page = Files.readAllLines(README);
        Path folder = Files.createTempDirectory("readme");
        runShown(blocks(page, "java"), folder);
        for (String block : blocks(page, "sh")) {
            runCommands(block, folder);
        }
        remove(folder);
        everyTestIsNamed(page);
        everyCallIsNamed(page);
        Checks.finish("ReadmeTest");
    }

    /** What stands between ```kind and ```. */
    private static List<String> blocks(List<String> page, String kind) {
        List<String> blocks = new ArrayList<>();
        StringBuilder block = null;
        for (String line : page) {
            if (block == null && line.equals("```" + kind)) {
                block = new StringBuilder();
            } else if (block != null && line.equals("```")) {
                blocks.add(block.toString());
                block = null;
            } else if (block != null) {
                block.append(line).append('\n');
            }
        }
        Checks.due("blocks of " + kind + " are shown", true, !blocks.isEmpty());
        return blocks;
    }

    // ---- what is shown of the class ----

    private static void runShown(List<String> blocks, Path folder) throws IOException, InterruptedException {
        StringBuilder members = new StringBuilder();
        StringBuilder calls = new StringBuilder();
        for (int i = 0; i < blocks.size(); i++) {
            if (blocks.get(i).startsWith("static ")) {
                members.append(blocks.get(i));
            } else {
                members.append("static void block").append(i).append("() {\n").append(checked(blocks.get(i))).append("}\n");
                calls.append("block").append(i).append("();\n");
            }
        }
        String source = "public final class Shown {\n" + members
            + "public static void main(String[] args) {\n" + calls + "Checks.finish(\"Shown\");\n}\n}\n";
        Path file = folder.resolve("Shown.java");
        Files.writeString(file, source);
        String path = folder + File.pathSeparator + System.getProperty("java.class.path");
        Path said = folder.resolve("answered");
        Checks.due("what README.md shows compiles", 0, exitCode(said, "javac", "-d", folder.toString(), "-cp", path, file.toString()));
        Checks.due("what README.md shows is answered", 0, exitCode(said, "java", "-cp", path, "Shown"));
    }

    /** Runs a command; what it says stays in a file, and is told if it fails. */
    private static int exitCode(Path said, String... command) throws IOException, InterruptedException {
        int code = new ProcessBuilder(command).redirectErrorStream(true).redirectOutput(said.toFile()).start().waitFor();
        if (code != 0) {
            System.out.print(Files.readString(said));
        }
        return code;
    }

    /** Each line that says what a call answers becomes a check of it. */
    private static String checked(String block) {
        StringBuilder text = new StringBuilder();
        for (String line : block.split("\n")) {
            Matcher shown = SHOWN.matcher(line);
            if (!shown.matches()) {
                Checks.due("it is told what a call answers: " + line, false, line.startsWith("x.") && !line.equals("x.image();"));
                text.append(line).append('\n');
            } else if (shown.group(2) == null) {
                text.append("Checks.due(").append(quoted(line)).append(", ").append(shown.group(3)).append(", ")
                    .append(shown.group(1)).append(");\n");
            } else {
                text.append("Checks.refused(").append(quoted(line)).append(", ").append(shown.group(3)).append(".class, () -> ")
                    .append(shown.group(1)).append(");\n");
            }
        }
        return text.toString();
    }

    private static String quoted(String line) {
        return '"' + line.replace("\\", "\\\\").replace("\"", "\\\"") + '"';
    }

    // ---- what is said of the tests ----

    private static void runCommands(String block, Path folder) throws IOException, InterruptedException {
        Path said = folder.resolve("said");
        Checks.due("exit code of\n" + block, 0, exitCode(said, "sh", "-eu", "-c", block));
        String text = Files.readString(said);
        Checks.due("one test ran by itself", true, Pattern.compile("TaleTest: [0-9]+ checks, 0 wrong").matcher(text).find());
        Checks.due("so many drawn runs", true, text.contains("ModelTest: 20 checks, 0 wrong"));
        Checks.due("answers that were seen", true, Pattern.compile("undo true: [0-9]+|undo some: [0-9]+").matcher(text).find());
    }

    private static void everyTestIsNamed(List<String> page) throws IOException {
        TreeSet<String> named = new TreeSet<>();
        for (String line : page) {
            Matcher row = Pattern.compile("\\| (\\w+Test) \\|.*").matcher(line);
            if (row.matches()) {
                named.add(row.group(1));
            }
        }
        TreeSet<String> there = new TreeSet<>();
        try (Stream<Path> files = Files.list(TESTS)) {
            files.map(f -> f.getFileName().toString()).filter(f -> f.endsWith("Test.java"))
                .forEach(f -> there.add(f.substring(0, f.length() - ".java".length())));
        }
        Checks.due("tests named " + named + ", there " + there, true, named.equals(there));
        Checks.due(".ci/run can be run", true, Files.isExecutable(Path.of(".ci", "run")));
    }

    /** Every call of the face stands on the page, in what is shown or in the table. */
    private static void everyCallIsNamed(List<String> page) {
        String text = String.join("\n", page);
        TreeSet<String> face = new TreeSet<>();
        for (java.lang.reflect.Method m : GlassHill.class.getDeclaredMethods()) {
            if (java.lang.reflect.Modifier.isPublic(m.getModifiers())) {
                face.add(m.getName());
                Checks.due(m.getName() + " is named", true,
                    text.contains("x." + m.getName() + "(") || text.contains("`" + m.getName() + "`"));
            }
        }
        Matcher call = CALL.matcher(text);
        while (call.find()) {
            Checks.due(call.group(1) + " is of the face", true, face.contains(call.group(1)));
        }
    }

    private static void remove(Path folder) throws IOException {
        try (Stream<Path> files = Files.walk(folder)) {
            for (Path file : files.sorted(Comparator.reverseOrder()).toList()) {
                Files.delete(file);
            }
        }
    }
}
