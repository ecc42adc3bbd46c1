import java.io.IOException;
import java.nio.file.Files;
import java.nio.file.Path;

/** Counts answers that are not due, as the tests under ../shared/tests do. */
final class Check {
    private static int wrong = 0;
    private static int asked = 0;
    private static String sentence = "";
    private static String document;

    private Check() {
    }

    /** What follows tests this sentence; its words must be the document's, so that none is tested that it does not say. */
    static void sentence(String words) {
        sentence = words;
        holds("the document says so", document().contains(words));
    }

    private static String document() {
        if (document == null) {
            try {
                document = Files.readString(Path.of("../shared/DOC.md")).replaceAll("\\s+", " ");
            } catch (IOException e) {
                throw new IllegalStateException("../shared/DOC.md can't be read", e);
            }
        }
        return document;
    }

    static void due(String call, long got, long want) {
        asked++;
        if (got != want) {
            tellWrong(call + " answered " + got + ", due is " + want);
        }
    }

    static void same(String what, String got, String want) {
        asked++;
        if (!got.equals(want)) {
            tellWrong(what + " is " + got + ", due is " + want);
        }
    }

    private static void tellWrong(String words) {
        wrong++;
        System.out.println((sentence.isEmpty() ? "" : "\"" + sentence + "\": ") + words);
    }

    static void holds(String what, boolean so) {
        due(what, so ? 1 : 0, 1);
    }

    /** An object that has read a text as its orchard. */
    static OrchardLadders read(String text) {
        OrchardLadders x = new OrchardLadders();
        int trees = readInto(x, text);
        if (trees < 1) {
            due("orchard of \"" + text + "\"", trees, 1);
        }
        return x;
    }

    static int readInto(OrchardLadders x, String text) {
        for (int i = 0; i < text.length(); i++) {
            x.type(text.charAt(i));
        }
        return x.orchard();
    }

    static void end() {
        if (asked == 0) {
            System.out.println("nothing was asked");
            System.exit(1);
        }
        System.out.println(asked + " asked, " + wrong + " wrong");
        if (wrong != 0) {
            System.exit(1);
        }
    }
}
