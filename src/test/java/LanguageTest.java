import java.lang.management.ManagementFactory;
import java.nio.file.Files;
import java.nio.file.Path;
import java.util.regex.Matcher;
import java.util.regex.Pattern;

/** Rules of ../shared/LANGUAGE.md that a look at the text can tell, and that no call makes an object (the room is one). */
public final class LanguageTest {
    private static final String[] NEVER = {"\\bimport\\b", "->", "::", "\\bfinally\\b", "\\bsynchronized\\b", "\\bassert\\b",
        "\\bthrow\\b", "\\bcatch\\b", "\\bdouble\\b", "\\bfloat\\b", "\\bSystem\\.(?!arraycopy\\b)", "\\bwhile \\(true\\)", "Exact\\b",
        "\\bpackage\\b", "\\bprotected\\b", "\\bThread\\b", "\\bstatic \\{"};

    public static void main(String[] args) throws Exception {
        String source = Files.readString(Path.of("src/main/java/OrchardLadders.java"));
        String code = source.replaceAll("(?s)/\\*.*?\\*/", "").replaceAll("//[^\n]*", "");
        for (String never : NEVER) {
            Check.holds("no " + never, !Pattern.compile(never).matcher(code).find());
        }
        Check.holds("signs are 1 to 127", source.chars().allMatch(c -> c > 0 && c < 128));
        Check.holds("twelve classes at most", matches("\\bclass \\w+ \\{", code) <= 12);
        Check.due("new in a method, but for constructors and fields", matches("(?m)^(?!    private final|        final).*\\bnew\\b", code), 2);
        methodsAreShort(code);
        noCallMakesAnObject();
        Check.end();
    }

    private static int matches(String pattern, String code) {
        Matcher m = Pattern.compile(pattern).matcher(code);
        int n = 0;
        while (m.find()) {
            n++;
        }
        return n;
    }

    private static void methodsAreShort(String code) {
        String[] lines = code.split("\n");
        int begin = 0;
        for (int i = 0; i < lines.length; i++) {
            if (lines[i].matches(" {4,8}[^ ].*\\) \\{")) {
                begin = i;
            } else if (lines[i].matches(" {4,8}}") && i - begin > 60) {
                Check.holds("short: " + lines[begin], lines[begin].isBlank() || lines[begin].contains("class"));
            }
        }
    }

    private static void noCallMakesAnObject() {
        com.sun.management.ThreadMXBean bean = (com.sun.management.ThreadMXBean) ManagementFactory.getThreadMXBean();
        long me = Thread.currentThread().getId();
        dearCalls(Check.read("4:30@0,9:22@2,2:9@1,14:41@3,6:17@0,5:5@5;p53=0,d91=1,t72=3,l64"));
        OrchardLadders x = Check.read("4:30@0,9:22@2,2:9@1,14:41@3,6:17@0,5:5@5;p53=0,d91=1,t72=3,l64");
        long before = bean.getThreadAllocatedBytes(me);
        dearCalls(x);
        long made = bean.getThreadAllocatedBytes(me) - before;
        Check.holds("no call makes an object: " + made + " bytes", made < 2000);
    }

    private static void dearCalls(OrchardLadders x) {
        for (int i = 0; i < 16; i++) {
            x.plan(14, 0);
            x.round(0, 4, -1);
            x.luck(9, 5, 0);
            x.larger(60, 999);
            x.ahead(60, 0);
            x.gathered();
            x.longer(0, 1);
            x.sheet(0, 3, 24);
            x.film(0, 24, 0, 3, 0);
            x.left(0, 0, 3, 0, 8);
            x.copy(0, 0, 0, 4, 8);
            x.item(0, 3, 1, 5L);
            x.image();
            x.drift(40);
            x.days(40);
            x.undo();
            x.restore();
            x.type('5');
            x.type(':');
            x.type('9');
            x.type('@');
            x.orchard();
            x.shake(0);
            x.drop(0);
            x.days(1);
        }
    }
}
