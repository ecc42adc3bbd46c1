import java.nio.file.Files;
import java.nio.file.Path;
import java.util.Set;
import java.util.TreeSet;
import java.util.regex.Matcher;
import java.util.regex.Pattern;
import java.util.stream.Stream;

/** README.md tells what is so: its rows are run, and it names every call of the face and every test. */
public final class ReadmeTest {
    private static final Pattern BLOCK = Pattern.compile("(?s)```java\n(.*?)```");
    private static final Pattern CALL = Pattern.compile("x\\.(\\w+\\(.*\\)); +// (-?\\d+)\\b.*");
    private static final Pattern TYPED = Pattern.compile("for \\(char letter : \"([^\"]*)\"\\.toCharArray\\(\\)\\) x\\.type\\(letter\\);");
    private static final Pattern FACE = Pattern.compile("public int (\\w+)\\(([^)]*)\\);");
    private static final Pattern CONSTANT = Pattern.compile("([A-Z]+) = (-\\d+)");

    public static void main(String[] args) throws Exception {
        String page = Files.readString(Path.of("README.md"));
        String document = Files.readString(Path.of("../shared/DOC.md"));
        Set<String> called = rowsAreSo(page);
        everyCallIsNamed(page, document, called);
        everyConstantIsNamed(page, document);
        everyTestIsNamed(page);
        Check.end();
    }

    /** The names of all calls in the page's rows, which are one run on one object. */
    private static Set<String> rowsAreSo(String page) {
        Set<String> called = new TreeSet<>();
        OrchardLadders x = null;
        Matcher block = BLOCK.matcher(page);
        while (block.find()) {
            for (String line : block.group(1).split("\n")) {
                Matcher call = CALL.matcher(line);
                Matcher typed = TYPED.matcher(line);
                if (line.equals("OrchardLadders x = new OrchardLadders();")) {
                    x = new OrchardLadders();
                } else if (x != null && call.matches()) {
                    String row = call.group(1).replace("OrchardLadders.NONE", "-4");
                    Check.due("README: " + line, Rows.answer(x, row), Integer.parseInt(call.group(2)));
                    called.add(row.substring(0, row.indexOf('(')));
                } else if (x != null && typed.matches()) {
                    Rows.answer(x, "letters " + typed.group(1));
                    called.add("type");
                } else {
                    Check.holds("README: a row that can be run: " + line, false);
                }
            }
        }
        return called;
    }

    private static void everyCallIsNamed(String page, String document, Set<String> called) {
        int calls = 0;
        Matcher face = FACE.matcher(document);
        while (face.find()) {
            String named = "| `" + face.group(1) + "(" + face.group(2).replaceAll("\\b(int|long) ", "") + ")` |";
            Check.holds("README names " + named, page.contains(named));
            Check.holds("README shows " + face.group(1), called.contains(face.group(1)));
            calls++;
        }
        Check.due("calls of the face", calls, 31);
    }

    private static void everyConstantIsNamed(String page, String document) {
        int constants = 0;
        Matcher constant = CONSTANT.matcher(document);
        while (constant.find()) {
            String named = "| `" + constant.group(1) + "` " + constant.group(2) + " |";
            Check.holds("README names " + named, page.contains(named));
            constants++;
        }
        Check.due("constants of the face", constants, 8);
    }

    private static void everyTestIsNamed(String page) throws Exception {
        try (Stream<Path> files = Files.list(Path.of("src/test/java"))) {
            for (Path file : (Iterable<Path>) files::iterator) {
                String name = file.getFileName().toString().replace(".java", "");
                Check.holds("README names " + name, !name.endsWith("Test") || Pattern.compile("\\b" + name + "\\b").matcher(page).find());
            }
        }
        Matcher named = Pattern.compile("(?<![.\\w])\\w+Test\\b").matcher(page);
        while (named.find()) {
            Check.holds("there is a " + named.group(), Files.exists(Path.of("src/test/java/" + named.group() + ".java")));
        }
    }
}
