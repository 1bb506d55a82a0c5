import java.io.ByteArrayOutputStream;
import java.io.IOException;
import java.io.PrintStream;
import java.lang.reflect.Method;
import java.lang.reflect.Modifier;
import java.nio.charset.StandardCharsets;
import java.nio.file.Files;
import java.nio.file.Path;
import java.util.ArrayList;
import java.util.List;
import java.util.Set;
import java.util.TreeSet;
import java.util.regex.Matcher;
import java.util.regex.Pattern;

/**
 * What README.md shows is so: its program is ReadmeExample, which prints what it says; a call that it names is one of
 * the class, with so many numbers; it names all calls and all tests; and what -1, -2 and -3 mean is told of the calls
 * of which the document tells it.
 */
public final class ReadmeTest {
    private static final Path README = Path.of("README.md");
    private static final Path TESTS = Path.of("src", "test", "java");
    private static final Path DOCUMENT = Path.of("..", "shared", "DOC.md");
    private static final Pattern BLOCK = Pattern.compile("(?ms)^```([a-z]*)\\n(.*?)^```$");
    private static final Pattern CALL = Pattern.compile("`([a-zA-Z]+)\\(([^`()]*)\\)`");

    private final String readme;
    private int wrong = 0;

    private ReadmeTest(String readme) {
        this.readme = readme;
    }

    private void rule(boolean kept, String what) {
        if (!kept) {
            wrong++;
            System.out.println("ReadmeTest: " + what);
        }
    }

    private static String read(Path path) throws IOException {
        return Files.readString(path, StandardCharsets.UTF_8);
    }

    private List<String> blocks(String kind) {
        List<String> all = new ArrayList<>();
        Matcher block = BLOCK.matcher(readme);
        while (block.find()) {
            if (block.group(1).equals(kind)) {
                all.add(block.group(2));
            }
        }
        return all;
    }

    private void program() throws IOException {
        rule(blocks("java").equals(List.of(read(TESTS.resolve("ReadmeExample.java")))),
                "its program is not src/test/java/ReadmeExample.java, word by word");
        PrintStream out = System.out;
        ByteArrayOutputStream printed = new ByteArrayOutputStream();
        System.setOut(new PrintStream(printed, true, StandardCharsets.UTF_8));
        ReadmeExample.main(new String[0]);
        System.setOut(out);
        String got = printed.toString(StandardCharsets.UTF_8).replace(System.lineSeparator(), "\n");
        rule(blocks("text").contains(got), "its program prints otherwise than it shows:\n" + got);
    }

    private static Set<String> face() {
        Set<String> calls = new TreeSet<>();
        for (Method m : QuietChannels.class.getDeclaredMethods()) {
            if (Modifier.isPublic(m.getModifiers())) {
                calls.add(m.getName() + " " + m.getParameterCount());
            }
        }
        return calls;
    }

    private void calls() {
        Set<String> named = new TreeSet<>();
        Matcher call = CALL.matcher(readme);
        while (call.find()) {
            int numbers = call.group(2).isBlank() ? 0 : call.group(2).split(",").length;
            named.add(call.group(1) + " " + numbers);
        }
        for (String one : named) {
            rule(face().contains(one), "there is no such call: " + one);
        }
        for (String one : face()) {
            rule(named.contains(one), "it doesn't tell of: " + one);
        }
    }

    /** The calls that a row of a table names behind its first cell. */
    private Set<String> rowOf(String first) {
        Set<String> names = new TreeSet<>();
        for (String line : readme.split("\n")) {
            String start = "| " + first + " |";
            if (line.startsWith(start)) {
                Matcher name = Pattern.compile("`([a-zA-Z]+)`").matcher(line.substring(start.length()));
                while (name.find()) {
                    names.add(name.group(1));
                }
            }
        }
        return names;
    }

    /** The promises in which an answer stands, as one that is told there. */
    private static Set<String> promisesThatTell(String document, String answer) {
        Set<String> names = new TreeSet<>();
        for (String section : document.split("(?m)^## ")) {
            Matcher heading = Pattern.compile("Promise [0-9]+: ([a-zA-Z]+)\\n").matcher(section);
            if (heading.lookingAt() && Pattern.compile(answer).matcher(section).find()) {
                names.add(heading.group(1));
            }
        }
        return names;
    }

    private void answers() throws IOException {
        if (!Files.exists(DOCUMENT)) {
            System.out.println("ReadmeTest: the document isn't here, so it was not looked at");
            return;
        }
        String document = read(DOCUMENT);
        Set<String> none = promisesThatTell(document, "NONE(?! - |\\))");
        rule(rowOf("`NONE` (-1)").equals(none), "NONE is told of " + rowOf("`NONE` (-1)") + ", due is " + none);
        for (String answer : new String[] {"-2", "-3"}) {
            Set<String> due = promisesThatTell(document, "(?<!not )" + answer + "[:,]");
            rule(rowOf(answer).equals(due), answer + " is told of " + rowOf(answer) + ", due is " + due);
        }
    }

    private void tests() throws IOException {
        try (var files = Files.list(TESTS)) {
            for (Path file : files.toList()) {
                String name = file.getFileName().toString();
                if (name.endsWith("Test.java")) {
                    rule(readme.contains("| " + name.replace(".java", "") + " |"), "it doesn't tell of " + name);
                }
            }
        }
    }

    private void words() {
        for (String words : new String[] {"512 calls", "`IndexOutOfBoundsException`", "`NoSuchElementException`",
            ".ci/run", "700 bytes"}) {
            rule(readme.contains(words), "it doesn't say: " + words);
        }
    }

    public static void main(String[] args) throws IOException {
        ReadmeTest test = new ReadmeTest(read(README));
        test.program();
        test.calls();
        test.answers();
        test.tests();
        test.words();
        System.out.println("ReadmeTest: " + test.wrong + " wrong");
        if (test.wrong > 0) {
            System.exit(1);
        }
    }
}
