import java.io.IOException;
import java.lang.reflect.Method;
import java.lang.reflect.Modifier;
import java.nio.charset.StandardCharsets;
import java.nio.file.Files;
import java.nio.file.Path;
import java.util.ArrayList;
import java.util.Comparator;
import java.util.List;
import java.util.regex.Matcher;
import java.util.regex.Pattern;
import java.util.stream.Stream;

/** README.md's examples, run as one who has not seen the project would: each answers as README.md says. */
public final class ReadmeTest {
    private static final String PROGRAM = "Winter";
    private static final String CLASS = "src/main/java/IceManners.java";
    private static final Pattern ANSWERED =
        Pattern.compile("(\\w.*);\\s*// (-?\\d+|true|false|\"[^\"]*\"|throws [A-Z]\\w+)(:.*)?");
    private static final Pattern UNANSWERED = Pattern.compile("tell\\(.*\\);|IceManners ice = new IceManners\\(\\);");

    private final List<String> readme;
    private final Path room;

    private ReadmeTest(List<String> readme, Path room) {
        this.readme = readme;
        this.room = room;
    }

    public static void main(String[] args) throws IOException, InterruptedException {
        Path room = Files.createTempDirectory("readme");
        try {
            ReadmeTest test = new ReadmeTest(Files.readAllLines(Path.of("README.md")), room);
            Files.createDirectories(room.resolve(CLASS).getParent());
            Files.copy(Path.of(CLASS), room.resolve(CLASS));
            test.firstProgram();
            test.examples();
            test.everyCall();
            test.everyTest();
        } finally {
            clear(room);
        }
        Check.finish();
    }

    private static void clear(Path room) throws IOException {
        try (Stream<Path> all = Files.walk(room)) {
            for (Path path : all.sorted(Comparator.reverseOrder()).toList()) {
                Files.delete(path);
            }
        }
    }

    /** The blocks of one kind, each with its lines joined; of java either the whole program or all but that. */
    private List<String> blocks(String kind) {
        List<String> found = new ArrayList<>();
        StringBuilder block = null;
        for (String line : readme) {
            if (block == null && line.equals("```" + kind)) {
                block = new StringBuilder();
            } else if (block != null && line.equals("```")) {
                found.add(block.toString());
                block = null;
            } else if (block != null) {
                block.append(line).append('\n');
            }
        }
        return found;
    }

    private static boolean isProgram(String block) {
        return block.contains("class " + PROGRAM + " ");
    }

    private void firstProgram() throws IOException, InterruptedException {
        int programs = 0;
        for (String block : blocks("java")) {
            if (isProgram(block)) {
                programs++;
                Files.writeString(room.resolve(PROGRAM + ".java"), block);
            }
        }
        Check.due("programs in README.md", programs, 1);
        String commands = blocks("sh").get(0);
        String printed = blocks("text").get(0);
        String got = run(commands);
        Check.due("README.md's first program prints\n" + got + "and README.md says\n" + printed,
            got.equals(printed), true);
    }

    private String run(String commands) throws IOException, InterruptedException {
        ProcessBuilder shells = new ProcessBuilder("sh", "-e", "-c", commands).directory(room.toFile());
        Process shell = shells.redirectErrorStream(true).start();
        shell.getOutputStream().close();
        String printed = new String(shell.getInputStream().readAllBytes(), StandardCharsets.ISO_8859_1);
        Check.due(commands + printed + "exit code", shell.waitFor(), 0);
        return printed;
    }

    /** Every line that stands in the other blocks, in a program that prints a line for each answer. */
    private void examples() throws IOException, InterruptedException {
        List<String> calls = new ArrayList<>();
        List<String> answers = new ArrayList<>();
        StringBuilder body = new StringBuilder();
        for (String block : blocks("java")) {
            if (isProgram(block)) {
                continue;
            }
            for (String line : block.split("\n")) {
                Matcher answered = ANSWERED.matcher(line);
                if (answered.matches()) {
                    calls.add(answered.group(1));
                    answers.add(answered.group(2).replace("\"", ""));
                    body.append(printing(answered.group(1)));
                } else {
                    Check.due("README.md: " + line + " is no example with an answer",
                        UNANSWERED.matcher(line).matches(), true);
                    body.append(line).append('\n');
                }
            }
        }
        Check.due("README.md has many examples", calls.size() > 50, true);
        Files.writeString(room.resolve("Examples.java"), "public class Examples extends " + PROGRAM
            + " {\npublic static void main(String[] args) {\n" + body + "}\n}\n");
        String[] got = run("javac -d out -cp out Examples.java\njava -cp out Examples\n").split("\n");
        Check.due("answers to README.md's examples", got.length, calls.size());
        for (int k = 0; k < calls.size() && k < got.length; k++) {
            Check.due("README.md: " + calls.get(k) + " says " + answers.get(k) + ", " + got[k] + " it is",
                got[k].equals(answers.get(k)), true);
        }
    }

    private static String printing(String call) {
        return "try { System.out.println(" + call + "); }\n"
            + "catch (RuntimeException e) { System.out.println(\"throws \" + e.getClass().getSimpleName()); }\n";
    }

    private void everyCall() {
        String all = String.join("\n", readme);
        for (Method m : IceManners.class.getDeclaredMethods()) {
            if (Modifier.isPublic(m.getModifiers())) {
                Check.due("README.md has an example of " + m.getName() + "()",
                    all.contains("." + m.getName() + "("), true);
            }
        }
    }

    private void everyTest() throws IOException {
        String all = String.join("\n", readme);
        try (Stream<Path> tests = Files.list(Path.of("src/test/java"))) {
            for (Path test : tests.toList()) {
                String name = test.getFileName().toString().replace(".java", "");
                if (name.endsWith("Test")) {
                    Check.due("README.md names " + name, all.contains("| " + name + " |"), true);
                }
            }
        }
    }
}
