import java.io.IOException;
import java.lang.reflect.Method;
import java.nio.charset.StandardCharsets;
import java.nio.file.Files;
import java.nio.file.Path;
import java.util.Arrays;
import java.util.Map;
import java.util.TreeMap;

/**
 * What the tests of sentences quote stands in the document, in the part that their names tell; and of the Terms and of
 * all promises nothing is left that no test quotes.
 */
public final class EdgeCoverTest {
    private static final Path DOCUMENT = Path.of("..", "shared", "DOC.md");
    private static final Class<?>[] TESTS = {EdgeTextTest.class, EdgeChangeTest.class, EdgeProductTest.class,
        EdgePlanTest.class, EdgeChanceTest.class};

    private final Map<String, String> parts = new TreeMap<>();
    private final Map<String, boolean[]> quoted = new TreeMap<>();
    private int wrong = 0;

    private static String oneLine(String text) {
        return text.replaceAll("\\s+", " ").trim();
    }

    private static String keyOf(String heading) {
        if (heading.startsWith("Promise ")) {
            return String.format("p%02d", Integer.parseInt(heading.substring(8, heading.indexOf(':'))));
        }
        return heading.equals("Terms") ? "terms" : heading.equals("What it is") ? "head" : "";
    }

    private void read(String document) {
        for (String section : document.split("(?m)^## ")) {
            int end = section.indexOf('\n');
            String key = end < 0 ? "" : keyOf(section.substring(0, end).trim());
            if (!key.isEmpty()) {
                String body = section.substring(end).replaceAll("```(text)?", " ").replaceAll("==== [0-9]\\.", " ");
                parts.put(key, oneLine(oneLine(body).replaceFirst("^`[^`]*`:", "")));
                quoted.put(key, new boolean[parts.get(key).length()]);
            }
        }
    }

    private void quote(Method test) {
        String name = test.getName();
        String key = name.substring(0, Math.max(0, name.indexOf('_')));
        String part = parts.getOrDefault(key, "");
        for (String words : test.getAnnotation(Says.class).value()) {
            int at = part.indexOf(oneLine(words));
            if (at < 0) {
                wrong++;
                System.out.println("EdgeCoverTest: " + name + " quotes what does not stand there: " + words);
            }
            while (at >= 0) {
                Arrays.fill(quoted.get(key), at, at + oneLine(words).length(), true);
                at = part.indexOf(oneLine(words), at + 1);
            }
        }
    }

    private void tellWhatIsLeft(String key) {
        String part = parts.get(key);
        StringBuilder left = new StringBuilder();
        for (int i = 0; i <= part.length(); i++) {
            if (i < part.length() && !quoted.get(key)[i]) {
                left.append(part.charAt(i));
            } else {
                if (left.toString().matches(".*[A-Za-z0-9].*")) {
                    wrong++;
                    System.out.println("EdgeCoverTest: " + key + ", no test quotes: " + left);
                }
                left.setLength(0);
            }
        }
    }

    public static void main(String[] args) throws IOException {
        if (!Files.exists(DOCUMENT)) {
            System.out.println("EdgeCoverTest: the document isn't here, so it was not looked at");
            return;
        }
        EdgeCoverTest cover = new EdgeCoverTest();
        cover.read(Files.readString(DOCUMENT, StandardCharsets.UTF_8));
        for (Class<?> tests : TESTS) {
            Edges.testsOf(tests).forEach(cover::quote);
        }
        for (String key : cover.parts.keySet()) {
            if (!key.equals("head")) {
                cover.tellWhatIsLeft(key);
            }
        }
        System.out.println("EdgeCoverTest: " + cover.parts.size() + " parts of the document, " + cover.wrong
                + " wrong");
        if (cover.wrong > 0) {
            System.exit(1);
        }
    }
}
