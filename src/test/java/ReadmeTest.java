import java.io.IOException;
import java.lang.reflect.Method;
import java.lang.reflect.Modifier;
import java.nio.file.Files;
import java.nio.file.Path;
import java.util.ArrayList;
import java.util.Comparator;
import java.util.List;
import java.util.Set;
import java.util.TreeSet;
import java.util.regex.Matcher;
import java.util.regex.Pattern;
import java.util.stream.Stream;

/**
 * README.md: its Java compiles and answers as it says and uses every call, its ERRORS are the
 * document's, what it says of the tests is what .ci/run does, and its commands for one test work.
 */
public final class ReadmeTest {
    private static final Pattern MADE = Pattern.compile("LacePillow pillow = new LacePillow\\(\\);.*");
    private static final Pattern ANSWERED = Pattern.compile("(pillow\\.(\\w+)\\(.*\\)); *// (-?\\d+)(: .*)?");
    private static final Pattern ERROR = Pattern.compile("(?m)^\\| (\\d) \\| (\\w+) \\| (-\\d+) \\| (-\\d+) \\|$");

    private static int wrong = 0;

    private static void due(String what, boolean holds) {
        if (!holds) {
            wrong++;
            System.out.println("README.md: " + what);
        }
    }

    /** The lines of all blocks of a language. */
    private static List<List<String>> blocks(String readme, String language) {
        List<List<String>> out = new ArrayList<>();
        Matcher block = Pattern.compile("(?ms)^```" + language + "\n(.*?)^```$").matcher(readme);
        while (block.find()) out.add(List.of(block.group(1).split("\n")));
        return out;
    }

    private static int run(String... command) throws IOException, InterruptedException {
        return new ProcessBuilder(command).inheritIO().start().waitFor();
    }

    // ---- the use of the class

    private static void use(String readme, Path room) throws IOException, InterruptedException {
        List<String> shown = new ArrayList<>();
        for (List<String> block : blocks(readme, "java")) shown.addAll(block);
        StringBuilder asked = new StringBuilder();
        Set<String> used = new TreeSet<>();
        for (String line : shown) {
            Matcher answered = ANSWERED.matcher(line);
            if (answered.matches()) {
                used.add(answered.group(2));
                asked.append("due(\"").append(answered.group(1)).append("\", ").append(answered.group(1))
                        .append(", ").append(answered.group(3)).append("L);\n");
            } else {
                due("a line that tells no answer: " + line, line.isEmpty() || MADE.matcher(line).matches());
                asked.append(line).append('\n');
            }
        }
        due("at most 512 calls", shown.size() <= 512);
        due("every call is shown, not " + used, used.equals(face()));
        Path source = room.resolve("Shown.java");
        Files.writeString(source, program(String.join("\n", shown), asked.toString()));
        String classes = System.getProperty("java.class.path");
        due("its Java compiles", run("javac", "-cp", classes, "-d", room.toString(), source.toString()) == 0);
        String both = classes + System.getProperty("path.separator") + room;
        due("its Java answers as it says", run("java", "-cp", both, "Shown") == 0);
    }

    private static Set<String> face() {
        Set<String> names = new TreeSet<>();
        for (Method m : LacePillow.class.getDeclaredMethods()) if (Modifier.isPublic(m.getModifiers())) names.add(m.getName());
        return names;
    }

    private static String program(String shown, String asked) {
        return "public final class Shown {\n"
                + "static int wrong = 0;\n"
                + "static void due(String call, long got, long want) {\n"
                + "if (got != want) { wrong++; System.out.println(call + \" answered \" + got + \", not \" + want); }\n"
                + "}\n"
                + "static void asShown() {\n" + shown + "\n}\n"
                + "public static void main(String[] args) {\n" + asked + "asShown();\n"
                + "if (wrong != 0) System.exit(1);\n"
                + "}\n}\n";
    }

    private static void errors(String readme) throws IOException {
        String document = Files.readString(Path.of("../shared/DOC.md"));
        Matcher error = ERROR.matcher(readme);
        int found = 0;
        while (error.find()) {
            found++;
            due("the ERRORS in their order", Integer.parseInt(error.group(1)) == found);
            due(error.group(2) + " is the document's", document.contains("LOW - " + found + " " + error.group(2)));
            due(error.group(3), Long.parseLong(error.group(3)) == -1000000000L - found);
            due(error.group(4), Long.parseLong(error.group(4)) == -9000000000000000000L - found);
        }
        due("7 ERRORS", found == 7);
    }

    // ---- how the tests are run

    private static void tests(String readme, Path room) throws IOException, InterruptedException {
        Set<String> named = new TreeSet<>();
        Matcher row = Pattern.compile("(?m)^\\| `(\\w+)` \\|").matcher(readme);
        while (row.find()) named.add(row.group(1) + ".java");
        Set<String> there = new TreeSet<>();
        try (Stream<Path> files = Files.list(Path.of("src/test/java"))) {
            files.forEach(file -> there.add(file.getFileName().toString()));
        }
        due("the tests are " + there + ", not " + named, named.equals(there));
        String script = Files.readString(Path.of(".ci/run"));
        due(".ci/run can be executed", Files.isExecutable(Path.of(".ci/run")));
        for (String said : List.of("javac -Xlint:all -Werror", "src/test/java/*.java", "../shared/tests/*.java", "../shared/tests/LacePillowRuns.java"))
            due("'" + said + "' stands there and in .ci/run", readme.contains("`" + said + "`") && script.contains(said));
        List<List<String>> commands = blocks(readme, "sh");
        due("the commands are .ci/run and those for one test", commands.size() == 2 && commands.get(0).equals(List.of(".ci/run")));
        if (commands.size() < 2) return;
        ProcessBuilder one = new ProcessBuilder("sh", "-e", "-c", String.join("\n", commands.get(1)));
        one.redirectOutput(room.resolve("one").toFile()).redirectError(ProcessBuilder.Redirect.INHERIT);
        due("the commands for one test work", one.start().waitFor() == 0);
    }

    private static void clear(Path room) throws IOException {
        try (Stream<Path> files = Files.walk(room)) {
            for (Path file : files.sorted(Comparator.reverseOrder()).toList()) Files.delete(file);
        }
    }

    public static void main(String[] args) throws IOException, InterruptedException {
        String readme = Files.readString(Path.of("README.md"));
        Path room = Files.createTempDirectory("readme");
        try {
            use(readme, room);
            errors(readme);
            tests(readme, room);
        } finally {
            clear(room);
        }
        System.out.println(wrong == 0 ? "ReadmeTest: README.md is as it says" : "ReadmeTest: " + wrong + " faults");
        if (wrong != 0) System.exit(1);
    }
}
