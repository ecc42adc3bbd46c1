/** What is refused changes nothing, but as told; what is foretold changes nothing; what is done changes just what it should. */
public final class RefusedTest {
    private static final String[] RICH = {"text 5:20@0,3:9@1,9:30@99;p53=0,d42=1,l61", "rule(0, 6)", "rule(1, 2)", "seed(1234)", "days(2)", "image()",
        "days(1)", "lean(2, 2)", "shake(2)", "seed(99)", "sheet(0, 0, 5)", "item(0, 0, 0, 1)", "item(0, 0, 1, 2)", "item(0, 0, 4, 3)", "sheet(1, 2, 3)",
        "item(1, 2, 2, 5)", "sheet(2, 0, 2)", "item(2, 0, 1, 4)", "letters 4:4@4,6:6@6;w"};
    private static final String RICH_TAPE = "77=1";
    private static final String[] FULL = {"text 1:1@0,2:20@0,3:30@0,4:40@0,5:50@0,6:60@0;p11=0,d22=1,t33=2,w44=3", "days(9)",
        "letters 1:1@1,2:2@2,3:3@3,4:4@4,5:5@5,6:6@6;p77,d66=1,t55,w44=5", "letters " + " ".repeat(36)};
    private static final String FULL_TAPE = "";
    private static final String NEW_TAPE = "1:1@1";

    public static void main(String[] args) {
        Check.sentence("What is refused changes nothing, but as told.");
        refusedByBadNumbers();
        refusedDeeds();
        refusedForetelling();
        refusedSheets();
        refusedWhenFull();
        refusedWhenNew();
        refusedOnTheLastDay();
        faults();
        Check.sentence("FORETOLD from now (nothing is changed)");
        foretold();
        Check.sentence("Nothing is promised beyond the answers and state changes described above");
        done();
        Check.end();
    }

    /** Each row is refused, and behind it all is as in a twin that was not asked. */
    private static void refused(String[] setUp, String letters, String... rows) {
        String[] due = new Probe(setUp).see(letters);
        for (String row : rows) {
            int cut = row.lastIndexOf(" = ");
            String call = row.substring(0, cut);
            Probe asked = new Probe(setUp);
            Check.due(call, asked.ask(call), Integer.parseInt(row.substring(cut + 3)));
            Check.same("what changed behind " + call, changed(due, asked.see(letters)), "");
        }
    }

    private static String changed(String[] before, String[] behind) {
        StringBuilder parts = new StringBuilder();
        for (int p = 0; p < before.length; p++) {
            if (!before[p].equals(behind[p])) {
                parts.append(Probe.PARTS.charAt(p));
            }
        }
        return parts.toString();
    }

    private static void refusedByBadNumbers() {
        refused(RICH, RICH_TAPE, "tree(0, 5, 5) = -1", "tree(21, 5, 5) = -1", "tree(5, -1, 5) = -1", "tree(5, 100, 5) = -1", "tree(5, 5, -1) = -1",
            "tree(5, 5, 100) = -1", "ladder(-1, 5, 5) = -1", "ladder(5, 5, 5) = -1", "ladder(0, 0, 5) = -1", "ladder(0, 10, 5) = -1",
            "ladder(0, 5, -1) = -1", "ladder(0, 5, 10) = -1", "of(-1, 0) = -1", "of(3, 0) = -1", "of(0, -1) = -1", "of(0, 5) = -1", "at(-1, 0) = -1",
            "at(3, 0) = -1", "at(0, -1) = -1", "at(0, 6) = -1", "rule(-1, 5) = -1", "rule(2, 5) = -1", "rule(0, 0) = -1", "rule(0, 31) = -1",
            "rule(1, -1) = -1", "rule(1, 10) = -1", "type(31) = -1", "type(127) = -1", "count(-1) = -1", "count(10) = -1");
    }

    private static void refusedDeeds() {
        refused(RICH, RICH_TAPE, "days(0) = -1", "days(41) = -1", "days(MIN) = -1", "days(MAX) = -1", "lean(-1, 0) = -1", "lean(3, 0) = -1",
            "lean(0, -1) = -1", "lean(0, 3) = -1", "lean(0, 0) = -2", "lean(2, 2) = -2", "shake(-1) = -1", "shake(3) = -1", "drift(0) = -1",
            "drift(41) = -1", "drift(MIN) = -1", "drift(MAX) = -1", "seed(-1) = -1", "seed(MIN) = -1");
        String[] bare = {"text 1:0@0,1:5@0;p10,p10=0", "days(1)", "letters " + NEW_TAPE};
        refused(bare, " ", "shake(0) = -2", "lean(0, -4) = -2", "lean(1, 0) = -2");
    }

    private static void refusedForetelling() {
        refused(RICH, RICH_TAPE, "ahead(-1, 0) = -1", "ahead(61, 0) = -1", "ahead(0, -1) = -1", "ahead(0, 3) = -1", "fruit(-1, 0) = -1",
            "fruit(3, 0) = -1", "fruit(0, -1) = -1", "fruit(0, 61) = -1", "reached(-1, 0) = -1", "reached(3, 0) = -1", "reached(0, -1) = -1",
            "reached(0, 61) = -1", "plan(0, -4) = -1", "plan(15, -4) = -1", "plan(1, -1) = -1", "plan(1, 3) = -1", "round(-1, 1, 0) = -1",
            "round(3, 1, 0) = -1", "round(0, 0, 0) = -1", "round(0, 5, 0) = -1", "round(0, 1, -2) = -1", "round(0, 1, 1) = -4", "longer(-1, 0) = -1",
            "longer(3, 0) = -1", "longer(0, -1) = -1", "longer(0, 3) = -1", "longer(1, 2) = -4", "larger(0, 1) = -1", "larger(61, 1) = -1",
            "larger(1, 0) = -1", "larger(1, 1000) = -1", "larger(60, 999) = -4", "luck(-1, 5, 0) = -1", "luck(151, 5, 0) = -1", "luck(5, -1, 0) = -1",
            "luck(5, 11, 0) = -1", "luck(5, 5, -1) = -1", "luck(5, 5, 2) = -1", "gathered() = -4");
    }

    private static void refusedSheets() {
        refused(RICH, RICH_TAPE, "left(-1, 0, 0, 0, 1) = -1", "left(3, 0, 0, 0, 1) = -1", "left(0, -1, 0, 0, 1) = -1", "left(0, 4, 0, 0, 1) = -1",
            "left(0, 0, -1, 0, 1) = -1", "left(0, 0, 4, 0, 1) = -1", "left(0, 0, 0, 0, 0) = -1", "left(0, 0, 0, 0, 9) = -1", "left(0, 3, 0, 0, 1) = -11",
            "left(0, 0, 1, 0, 1) = -12", "left(0, 0, 0, -1, 1) = -13", "left(0, 0, 0, 5, 1) = -13", "left(0, 0, 0, 0, 6) = -13");
        refused(RICH, RICH_TAPE, "film(-1, 1, 0, 0, 0) = -1", "film(3, 1, 0, 0, 0) = -1", "film(0, 0, 0, 0, 0) = -1", "film(0, 25, 0, 0, 0) = -1",
            "film(0, 1, -1, 0, 0) = -1", "film(0, 1, 4, 0, 0) = -1", "film(0, 1, 0, -1, 0) = -1", "film(0, 1, 0, 4, 0) = -1", "film(0, 1, 3, 0, 0) = -11",
            "film(0, 1, 0, 1, 0) = -12", "film(0, 1, 0, 0, -1) = -13", "film(0, 2, 0, 0, -1) = -13", "film(0, 6, 0, 0, 0) = -13", "film(0, 5, 0, 0, 1) = -13",
            "film(0, 1, 0, 0, 5) = -13", "film(0, 24, 1, 2, 2) = -13");
        refused(RICH, RICH_TAPE, "sheet(-1, 0, 1) = -1", "sheet(4, 0, 1) = -1", "sheet(0, -1, 1) = -1", "sheet(0, 4, 1) = -1", "sheet(0, 0, 25) = -1",
            "sheet(0, 0, -1) = -14", "sheet(3, 0, -1) = -14", "drop(-1) = -1", "drop(4) = -1", "drop(3) = -11");
        refused(RICH, RICH_TAPE, "item(-1, 0, 0, 0) = -1", "item(4, 0, 0, 0) = -1", "item(0, -1, 0, 0) = -1", "item(0, 4, 0, 0) = -1",
            "item(3, 0, 0, 0) = -11", "item(0, 1, 0, 0) = -12", "item(0, 0, -1, 0) = -13", "item(0, 0, 5, 0) = -13");
        refused(RICH, RICH_TAPE, "copy(-1, 0, 0, 0, 1) = -1", "copy(0, 0, 4, 0, 1) = -1", "copy(0, 0, 3, 0, 1) = -11", "copy(3, 0, 0, 0, 1) = -11",
            "copy(0, 0, 1, 0, 1) = -12", "copy(1, 0, 0, 0, 1) = -12", "copy(0, 0, 2, 0, 3) = -13", "copy(2, 0, 0, 0, 3) = -13", "copy(0, -1, 2, 0, 2) = -13",
            "copy(0, 0, 2, -1, 2) = -13", "copy(0, 0, 2, 0, -1) = -13", "copy(0, 4, 2, 0, 2) = -13", "copy(0, 0, 2, 1, 2) = -13", "copy(0, 0, 0, 1, 5) = -13");
    }

    private static void refusedWhenFull() {
        refused(FULL, FULL_TAPE, "tree(1, 1, 1) = -3", "tree(21, 1, 1) = -1", "ladder(0, 1, 1) = -3", "ladder(5, 1, 1) = -1", "type(32) = -3",
            "type(49) = -3", "type(31) = -1", "restore() = -4", "days(41) = -1", "lean(0, 0) = -2", "shake(0) = -2");
    }

    private static void refusedWhenNew() {
        refused(new String[0], NEW_TAPE, "undo() = -4", "restore() = -4", "plan(1, -4) = -4", "plan(1, 0) = -1", "round(0, 1, -1) = -1", "of(0, 0) = -1",
            "at(0, 0) = -1", "lean(0, -4) = -1", "shake(0) = -1", "drop(0) = -11", "item(0, 0, 0, 1) = -11", "copy(0, 0, 1, 0, 0) = -11",
            "left(0, 0, 0, 0, 1) = -1", "film(0, 1, 0, 0, 0) = -1", "sheet(0, 0, -1) = -14", "larger(1, 1) = -4");
        refused(new String[] {"ladder(0, 5, 5)"}, NEW_TAPE, "plan(1, -4) = -4", "plan(1, 0) = -4", "round(0, 1, -1) = -4", "round(0, 1, 0) = -4");
        refused(new String[] {"tree(5, 5, 5)"}, NEW_TAPE, "plan(1, -4) = -4", "undo() = -4");
    }

    private static void refusedOnTheLastDay() {
        String[] late = new String[250];
        java.util.Arrays.fill(late, "days(40)");
        late[0] = "drift(39)";
        refused(late, NEW_TAPE, "days(1) = -3", "days(40) = -3", "drift(1) = -3", "drift(40) = -3", "days(41) = -1", "drift(0) = -1");
    }

    /** Behind a fault the tape is empty, as told; typed again, all is as in a twin that read nothing. */
    private static void faults() {
        Check.sentence("THE TAPE, which is empty then, is AN ORCHARD: how many TREES. A FAULT (all else stays).");
        String[] due = new Probe(RICH).see(RICH_TAPE);
        Probe asked = new Probe(RICH);
        Check.due("orchard()", asked.ask("orchard()"), -33);
        Check.due("the tape is empty then", asked.ask("type(52)"), 1);
        asked.ask("letters :4@4,6:6@6;w");
        Check.same("what changed behind a fault", changed(due, asked.see(RICH_TAPE)), "");
        String[] texts = {"", "0", "5:9@0,6:7@8,1:2@3;p12=3", "5:9@0,6:7@8,1:2@3;p12=2,", "5:9@0;t99=0 x", "5:9@0,6:7@8,1:2@3;l12,l12,l12,l12,"};
        for (String text : texts) {
            Probe wrong = new Probe(java.util.Arrays.copyOf(RICH, RICH.length - 1));
            Check.holds("\"" + text + "\" is a fault", wrong.ask("text " + text) <= -20);
            wrong.ask("letters 4:4@4,6:6@6;w");
            Check.same("what changed behind \"" + text + "\"", changed(due, wrong.see(RICH_TAPE)), "");
        }
    }

    private static void foretold() {
        refused(RICH, RICH_TAPE, "count(0) = 3", "count(9) = 5", "of(0, 1) = 0", "of(1, 4) = 0", "at(0, 4) = 5", "at(0, 5) = 3", "ahead(60, 0) = 23",
            "ahead(0, 1) = 15", "ahead(60, 2) = 21", "fruit(1, 60) = 0", "reached(1, 60) = 1", "plan(14, -4) = 0", "plan(1, 0) = 0", "round(0, 4, -1) = 0",
            "round(0, 4, 3) = 0", "longer(0, 2) = 4", "larger(1, 999) = -4", "luck(0, 5, 0) = 1", "luck(1, 5, 1) = 1", "left(2, 0, 0, 0, 5) = 0",
            "left(0, 2, 0, 0, 1) = 39");
        String[] ripe = {"text 5:70@0,3:9@1;p53=0,d42=1", "days(1)", "letters " + NEW_TAPE, "sheet(0, 0, 1)", "item(0, 0, 0, 3)"};
        refused(ripe, " ", "gathered() = 11", "plan(14, -4) = 62", "round(1, 4, -1) = 28", "round(1, 4, 3) = 0", "luck(5, 5, 0) = 3", "larger(1, 9) = 5",
            "ahead(60, 0) = 67", "fruit(0, 5) = 34", "left(1, 0, 0, 0, 1) = 3");
    }

    /** What changes behind a call, part by part: O the orchard, U what may be undone, I the image, T the tape, S the sheets. */
    private static void done() {
        changes("tree(5, 5, 5) = 3", "OU");
        changes("ladder(0, 5, 5) = 3", "OU");
        changes("rule(0, 9) = 6", "O");
        changes("rule(1, 9) = 2", "O");
        changes("type(49) = 14", "T");
        changes("orchard() = -33", "T");
        changes("text 77=1 = 2", "OUT");
        changes("days(1) = 0", "OU");
        changes("lean(0, 1) = 0", "OU");
        changes("lean(0, -4) = 0", "OU");
        changes("shake(2) = 7", "OU");
        changes("drift(1) = 7", "OU");
        changes("undo() = 4", "OU");
        changes("seed(5) = 99", "O");
        changes("image() = 1", "I");
        changes("restore() = 1", "OU");
        changes("film(1, 2, 0, 0, 0) = 2", "S");
        changes("sheet(0, 0, 5) = 5", "S");
        changes("sheet(3, 1, 0) = 0", "S");
        changes("drop(1) = 3", "S");
        changes("item(1, 2, 0, 3) = 1", "S");
        changes("copy(0, 0, 2, 0, 2) = 2", "S");
        changes("item(1, 2, 2, 5) = 1", "");
        changes("copy(0, 0, 2, 0, 0) = 0", "");
        changes("rule(0, 6) = 6", "");
        changes("seed(99) = 99", "");
    }

    private static void changes(String row, String due) {
        int cut = row.lastIndexOf(" = ");
        Probe asked = new Probe(RICH);
        Check.due(row.substring(0, cut), asked.ask(row.substring(0, cut)), Integer.parseInt(row.substring(cut + 3)));
        Check.same("what changed behind " + row, changed(new Probe(RICH).see(RICH_TAPE), asked.see(RICH_TAPE)), due);
    }
}
