/** Where several answers below 0 hold at once, the first that a call names is due. */
public final class OrderTest {
    private static final String SIX = "1:1@0,2:2@0,3:3@0,4:4@0,5:5@0,6:6@0";

    public static void main(String[] args) {
        badAheadOfFull();
        badAheadOfNot();
        badAheadOfNone();
        badAheadOfTheMachine();
        theMachine();
        Check.end();
    }

    private static void badAheadOfFull() {
        Check.sentence("Answers below 0, of several the first that a call names: BAD -1 (a number is not as told, there is no such thing)");
        Rows.run(SIX, "tree(0, 1, 1) = -1", "tree(21, 1, 1) = -1", "tree(1, 100, 1) = -1", "tree(1, 1, 100) = -1", "tree(1, 1, 1) = -3");
        Rows.run("1:1@0;p10,p10,p10,p10", "ladder(5, 1, 1) = -1", "ladder(0, 10, 1) = -1", "ladder(0, 1, 10) = -1", "ladder(0, 1, 1) = -3");
        Rows.run("", "letters " + " ".repeat(90), "type(31) = -1", "type(127) = -1", "type(32) = -3");
        String[] late = new String[256];
        java.util.Arrays.fill(late, "days(40) = 0");
        late[249] = "days(39) = 0";
        late[250] = "days(41) = -1";
        late[251] = "drift(41) = -1";
        late[252] = "days(0) = -1";
        late[253] = "drift(0) = -1";
        late[254] = "days(40) = -3";
        late[255] = "drift(40) = -3";
        Rows.run("", late);
    }

    private static void badAheadOfNot() {
        Check.sentence("BAD; NOT: it does so.");
        Rows.run("1:0@0;p10", "lean(1, -4) = -1", "lean(0, -4) = -2");
        Check.sentence("BAD; NOT: it has no FRUIT.");
        Rows.run("1:0@0", "shake(1) = -1", "shake(0) = -2");
    }

    /** The shared test has round(0, 0, 0) as BAD, where the 0th of no days would be NONE, and larger(1, 1000) as BAD, too. */
    private static void badAheadOfNone() {
        Check.sentence("at which TREE one leans; NONE. BAD.");
        Rows.run("", "plan(0, -4) = -1", "plan(15, -4) = -1", "plan(1, 0) = -1", "plan(1, -1) = -1", "plan(1, -4) = -4");
        Rows.run("1:1@0", "plan(0, -4) = -1", "plan(15, -4) = -1", "plan(1, 0) = -1", "plan(1, -4) = -4");
        Check.sentence("(NONE: not so many); NONE. BAD: k below -1, too.");
        Rows.run("1:1@0;p10", "round(0, 0, 0) = -1", "round(0, 0, 9) = -1", "round(0, 5, 9) = -1", "round(1, 1, 9) = -1", "round(0, 1, 9) = -4");
        Rows.run("", "ladder(0, 1, 1) = 0", "round(1, 1, 0) = -1", "round(0, 5, 0) = -1", "round(0, 1, -2) = -1", "round(0, 1, 0) = -4");
        Check.sentence("LONGER; NONE. BAD.");
        Rows.run("20:1@0;p10", "longer(1, 0) = -1", "longer(0, 1) = -1", "longer(0, 0) = -4");
        Check.sentence("LARGER; NONE. BAD.");
        Rows.run("", "larger(0, 1) = -1", "larger(61, 1) = -1", "larger(1, 0) = -1", "larger(1, 1000) = -1", "larger(1, 999) = -4");
    }

    private static void badAheadOfTheMachine() {
        Check.sentence("what the machine finds: NULL -11, INDEX -13, SIZE -14 (NULL, CAST, INDEX, SIZE in this order)");
        Rows.run("1:1@0", "left(1, 0, 0, -1, 1) = -1", "left(0, 0, 4, -1, 1) = -1", "left(0, 0, 0, -1, 9) = -1", "left(0, 0, 0, -1, 1) = -11");
        Rows.run("1:1@0", "film(1, 1, 0, 0, -1) = -1", "film(0, 25, 0, 0, -1) = -1", "film(0, 1, 0, 4, -1) = -1", "film(0, 1, 0, 0, -1) = -11");
        Rows.run("", "item(4, 0, -1, 0) = -1", "item(0, 4, -1, 0) = -1", "item(0, 0, -1, 0) = -11");
        Rows.run("", "copy(4, -1, 0, -1, -1) = -1", "copy(0, -1, 4, -1, -1) = -1", "copy(0, -1, 0, -1, -1) = -11");
        Rows.run("", "sheet(4, 0, -1) = -1", "sheet(0, 4, -1) = -1", "sheet(0, 0, -1) = -14");
        Rows.run("", "drop(4) = -1", "drop(0) = -11");
    }

    private static void theMachine() {
        Check.sentence("CAST -12 (of SHEETS another LANE)");
        Rows.run("1:1@0", "sheet(0, 0, 2) = 2", "left(0, 0, 1, 9, 1) = -12", "left(0, 0, 0, 9, 1) = -13", "left(0, 0, 1, 0, 1) = -12");
        Rows.run("1:1@0", "sheet(0, 0, 2) = 2", "film(0, 9, 0, 1, 0) = -12", "film(0, 9, 0, 0, 0) = -13", "film(0, 1, 0, 1, 0) = -12");
        Rows.run("", "sheet(0, 0, 2) = 2", "item(0, 1, 9, 0) = -12", "item(0, 0, 9, 0) = -13", "item(0, 1, 0, 0) = -12");
        Rows.run("", "sheet(0, 0, 2) = 2", "sheet(1, 1, 2) = 2", "copy(0, 9, 2, 9, 9) = -11", "copy(2, 9, 0, 9, 9) = -11", "copy(0, 9, 1, 9, 9) = -12",
            "copy(0, 9, 0, 9, 9) = -13");
    }
}
