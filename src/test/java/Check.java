/** Counts answers that are not due, as the tests under ../shared/tests do. */
final class Check {
    private static int wrong = 0;
    private static int asked = 0;

    private Check() {
    }

    static void due(String call, long got, long want) {
        asked++;
        if (got != want) {
            wrong++;
            System.out.println(call + " answered " + got + ", due is " + want);
        }
    }

    static void holds(String what, boolean so) {
        due(what, so ? 1 : 0, 1);
    }

    /** An object that has read a text as its orchard. */
    static OrchardLadders read(String text) {
        OrchardLadders x = new OrchardLadders();
        int trees = readInto(x, text);
        if (trees < 1) {
            due("orchard of \"" + text + "\"", trees, 1);
        }
        return x;
    }

    static int readInto(OrchardLadders x, String text) {
        for (int i = 0; i < text.length(); i++) {
            x.type(text.charAt(i));
        }
        return x.orchard();
    }

    static void end() {
        if (asked == 0) {
            System.out.println("nothing was asked");
            System.exit(1);
        }
        System.out.println(asked + " asked, " + wrong + " wrong");
        if (wrong != 0) {
            System.exit(1);
        }
    }
}
