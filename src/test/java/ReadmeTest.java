import java.io.IOException;
import java.lang.reflect.Field;
import java.lang.reflect.Method;
import java.lang.reflect.Modifier;
import java.nio.file.DirectoryStream;
import java.nio.file.Files;
import java.nio.file.Path;
import java.util.ArrayList;
import java.util.List;
import java.util.Map;
import java.util.Set;
import java.util.TreeMap;
import java.util.TreeSet;
import java.util.concurrent.TimeUnit;
import java.util.regex.Matcher;
import java.util.regex.Pattern;

/** README.md is right as it stands: its examples, its commands, its tables. */
public final class ReadmeTest {
    private static final int LONGEST_SECONDS = 120;
    /** A call of an example and what it answers: a number or a constant. */
    private static final Pattern ANSWERED = Pattern.compile("^\\s*(house\\..*\\));\\s+// (-?\\d+|[A-Z]+)\\b.*$");

    private static int wrong = 0;

    private record Block(String kind, String text) { }

    private record Ran(int exit, String output) { }

    public static void main(String[] args) throws Exception {
        Path root = Path.of(args.length > 0 ? args[0] : ".").toAbsolutePath().normalize();
        String page = Files.readString(root.resolve("README.md"));
        List<Block> blocks = blocks(page);
        examples(blocks);
        commands(blocks, root);
        constants(page);
        calls(page, root);
        tests(page, root);
        System.out.println(wrong == 0 ? "README.md is right" : wrong + " faults in README.md");
        if (wrong != 0) {
            System.exit(1);
        }
    }

    private static void check(boolean right, String told) {
        if (!right) {
            wrong++;
            System.out.println(told);
        }
    }

    private static List<Block> blocks(String page) {
        List<Block> blocks = new ArrayList<>();
        Matcher fenced = Pattern.compile("(?ms)^```(\\w+)\\n(.*?)^```$").matcher(page);
        while (fenced.find()) {
            blocks.add(new Block(fenced.group(1), fenced.group(2)));
        }
        return blocks;
    }

    private static Ran run(Path folder, String... command) throws IOException, InterruptedException {
        Path output = Files.createTempFile("readme", ".txt");
        Process process = new ProcessBuilder(command).directory(folder.toFile()).redirectErrorStream(true)
            .redirectInput(Path.of("/dev/null").toFile()).redirectOutput(output.toFile()).start();
        boolean ended = process.waitFor(LONGEST_SECONDS, TimeUnit.SECONDS);
        if (!ended) {
            process.destroyForcibly();
        }
        String printed = Files.readString(output);
        Files.delete(output);
        return new Ran(ended ? process.exitValue() : -1, printed);
    }

    // ---- examples

    /** All examples as one program, in which each answer that is told is looked at. */
    private static void examples(List<Block> blocks) throws IOException, InterruptedException {
        StringBuilder program = new StringBuilder("public final class Examples {\n"
            + "static int wrong = 0;\n"
            + "static void due(String call, long got, long due) {\n"
            + "if (got != due) { wrong++; System.out.println(call + \" answered \" + got + \", not \" + due); }\n}\n");
        StringBuilder all = new StringBuilder();
        int told = 0;
        for (Block block : blocks) {
            if (block.kind.equals("java")) {
                all.append("{\n");
                for (String line : block.text.split("\n")) {
                    Matcher answered = ANSWERED.matcher(line);
                    told += answered.matches() ? 1 : 0;
                    all.append(answered.matches() ? due(answered.group(1), answered.group(2)) : line).append('\n');
                }
                all.append("}\n");
            }
        }
        check(told > 0, "no example tells an answer");
        program.append("public static void main(String[] args) {\n").append(all).append("System.exit(wrong);\n}\n}\n");
        Path folder = Files.createTempDirectory("readme");
        Files.writeString(folder.resolve("Examples.java"), program);
        String classes = System.getProperty("java.class.path");
        Ran compiled = run(Path.of("."), "javac", "-cp", classes, "-d", folder.toString(),
            folder.resolve("Examples.java").toString());
        check(compiled.exit == 0, "the examples do not compile: " + compiled.output);
        if (compiled.exit == 0) {
            Ran ran = run(Path.of("."), "java", "-cp", classes + ":" + folder, "Examples");
            check(ran.exit == 0, "an example answers otherwise: " + ran.output);
        }
        deleteAll(folder);
    }

    private static String due(String call, String answer) {
        String number = Character.isUpperCase(answer.charAt(0)) ? "GhostRooms." + answer : answer;
        return "due(\"" + call.replace("\"", "\\\"") + "\", " + call + ", " + number + ");";
    }

    private static void deleteAll(Path folder) throws IOException {
        try (DirectoryStream<Path> files = Files.newDirectoryStream(folder)) {
            for (Path file : files) {
                Files.delete(file);
            }
        }
        Files.delete(folder);
    }

    // ---- commands

    private static void commands(List<Block> blocks, Path root) throws IOException, InterruptedException {
        int commands = 0;
        for (int i = 0; i < blocks.size(); i++) {
            Block block = blocks.get(i);
            if (!block.kind.equals("sh")) {
                continue;
            }
            commands++;
            if (block.text.equals(".ci/run\n")) {
                // It runs this test, so that it can't be run by it.
                check(Files.isExecutable(root.resolve(".ci/run")), ".ci/run is executable");
                continue;
            }
            Ran ran = run(root, "sh", "-e", "-c", block.text);
            check(ran.exit == 0, "exit code " + ran.exit + " of " + block.text + ran.output);
            if (i + 1 < blocks.size() && blocks.get(i + 1).kind.equals("text")) {
                String due = blocks.get(i + 1).text;
                check(ran.output.equals(due), block.text + "printed " + ran.output + "not " + due);
            }
        }
        check(commands > 1, "there are no commands");
    }

    // ---- tables

    private static void constants(String page) throws IllegalAccessException {
        Map<String, Integer> due = new TreeMap<>();
        for (Field field : GhostRooms.class.getFields()) {
            due.put(field.getName(), field.getInt(null));
        }
        Map<String, Integer> got = new TreeMap<>();
        Matcher row = Pattern.compile("(?m)^\\| `([A-Z]+)` \\| (-?\\d+) \\|").matcher(page);
        while (row.find()) {
            got.put(row.group(1), Integer.valueOf(row.group(2)));
        }
        check(got.equals(due), "the constants are " + due + ", not " + got);
    }

    private static void calls(String page, Path root) throws IOException {
        Map<String, Integer> due = new TreeMap<>();
        for (Method method : GhostRooms.class.getDeclaredMethods()) {
            if (Modifier.isPublic(method.getModifiers())) {
                due.put(method.getName(), method.getParameterCount());
            }
        }
        Path path = root.resolve("../shared/DOC.md");
        String document = Files.isReadable(path) ? Files.readString(path) : "";
        Map<String, Integer> got = new TreeMap<>();
        Matcher row = Pattern.compile("(?m)^\\| `(\\w+)\\((.*?)\\)` \\| (.*) \\|$").matcher(page);
        while (row.find()) {
            String name = row.group(1);
            got.put(name, row.group(2).isEmpty() ? 0 : row.group(2).split(", ").length);
            Set<String> refusals = words(row.group(3));
            if (!document.isEmpty()) {
                Set<String> promised = words(promise(document, name));
                check(refusals.equals(promised), name + " answers " + promised + ", not " + refusals);
            }
        }
        check(got.equals(due), "the calls are " + due + ", not " + got);
    }

    /** What the document says of a call, behind its signature. */
    private static String promise(String document, String name) {
        Matcher promise = Pattern.compile("(?s)## Promise \\d+: " + name + "\\n\\n`.*?`: (.*?)\\n\\n").matcher(document);
        return promise.find() ? promise.group(1) : "";
    }

    private static Set<String> words(String text) {
        Set<String> words = new TreeSet<>();
        Matcher word = Pattern.compile("\\b(BAD|STATE|FULL|NONE|NO)\\b").matcher(text);
        while (word.find()) {
            words.add(word.group());
        }
        return words;
    }

    private static void tests(String page, Path root) throws IOException {
        Set<String> due = new TreeSet<>();
        try (DirectoryStream<Path> files = Files.newDirectoryStream(root.resolve("src/test/java"), "*.java")) {
            for (Path file : files) {
                due.add(file.getFileName().toString().replace(".java", ""));
            }
        }
        Set<String> got = new TreeSet<>();
        Matcher name = Pattern.compile("`(\\w+Test)`").matcher(page);
        while (name.find()) {
            got.add(name.group(1));
        }
        check(got.equals(due), "the tests are " + due + ", not " + got);
    }
}
