/** The document's AN ORCHARD and promises 7 and 8, edge by edge: each sentence that names one has rows of its own. */
public final class TextEdgesTest {
    private static final String DIGITS = "0123456789", BUT_0 = "123456789";
    private static final String SIX = "1:1@1,1:1@1,1:1@1,1:1@1,1:1@1,1:1@1";

    public static void main(String[] args) {
        type();
        theTapeIsFull();
        howManyTrees();
        howManyLadders();
        high();
        fruit();
        ripe();
        kinds();
        digitsOfALadder();
        whereItLeans();
        twoDigits();
        whatCanStandThere();
        theEnd();
        blanks();
        inPlaceOfAll();
        theTapeIsEmptyThen();
        Check.end();
    }

    private static void type() {
        Check.sentence("BAD: not 32 .. 126");
        Rows.run("", "type(31) = -1", "type(32) = 1", "type(126) = 2", "type(127) = -1", "type(0) = -1", "type(-1) = -1", "type(MIN) = -1",
            "type(MAX) = -1", "type(305) = -1", "type(65585) = -1", "type(33) = 3");
        Check.sentence("A FAULT (all else stays)");
        Rows.run("", "letters 5:9@0", "type(31) = -1", "type(127) = -1", "orchard() = 1", "of(0, 1) = 9");
    }

    private static void theTapeIsFull() {
        Check.sentence("One letter more behind THE TAPE: how many it has. BAD: not 32 .. 126; FULL: 90.");
        String text = "1:1@1" + " ".repeat(84);
        Rows.run("", "letters " + text, "type(32) = 90", "type(32) = -3", "type(49) = -3", "type(31) = -1", "orchard() = 1", "of(0, 2) = 1",
            "type(49) = 1");
        Rows.run("", "letters " + " ".repeat(84) + "1:1@", "type(49) = 89", "type(50) = 90", "type(51) = -3", "orchard() = 1", "of(0, 2) = 12");
        Rows.run("", "letters " + " ".repeat(90), "type(49) = -3", "orchard() = -110");
        Rows.run("", "letters " + " ".repeat(89) + "5", "orchard() = -110");
        Rows.run("", "letters " + " ".repeat(89) + "x", "orchard() = -109");
        Rows.run("", "letters 20:99@99,20:99@99,20:99@99,20:99@99,20:99@99,20:99@99;p99=5,p99=5,p99=5,p99=5", "type(32) = 78", "orchard() = 6",
            "count(6) = 594", "of(5, 3) = 15");
    }

    private static void howManyTrees() {
        Check.sentence("1 to 6 TREES with , between");
        Rows.run("", "text 1:2@3 = 1", "count(0) = 1", "of(0, 0) = 1", "of(0, 1) = 2", "of(0, 2) = 3", "of(1, 0) = -1");
        Rows.run("", "text 1:2@3,4:5@6 = 2", "count(0) = 2", "of(1, 0) = 4", "of(1, 1) = 5", "of(1, 2) = 6");
        Rows.run("", "text 1:1@1,1:1@1,1:1@1,1:1@1,1:1@1 = 5", "count(0) = 5");
        Rows.run("", "text " + SIX + " = 6", "count(0) = 6", "tree(1, 1, 1) = -3");
        Rows.run("", "text " + SIX + ",1:1@1 = -55", "count(0) = 0");
        Rows.run("", "text " + SIX + ", = -55", "count(0) = 0");
        Rows.run("", "orchard() = -20", "text ;p11 = -20", "text ,1:1@1 = -20", "count(0) = 0");
    }

    private static void howManyLadders() {
        Check.sentence("then perhaps ; and 1 to 4 LADDERS with , between");
        Rows.run("", "text 1:1@1 = 1", "count(1) = 0");
        Rows.run("", "text 1:1@1;p12 = 1", "count(1) = 1", "at(0, 1) = 1", "at(0, 2) = 2", "at(0, 3) = -4", "at(1, 0) = -1");
        Rows.run("", "text 1:1@1;p12,d34,t56,w78 = 1", "count(1) = 4", "at(3, 0) = 3", "at(3, 1) = 7", "at(3, 2) = 8", "ladder(0, 1, 1) = -3");
        Rows.run("", "text 1:1@1;p12,d34,t56,w78,l90 = -41", "text 1:1@1;p12,d34,t56,w78, = -41", "text 1:1@1;p12,d34,t56,w78=0,l90 = -43",
            "text 1:1@1;p12,d34,t56,w78=0, = -43", "count(0) = 0");
        Rows.run("", "text 1:1@1; = -26", "text 1:1@1;, = -26", "text 1:1@1;; = -26", "text 1:1@1;p12; = -29", "text 1:1@1;p12;d34 = -29",
            "count(0) = 0");
        Rows.run("", "text " + SIX + ";p12 = 6", "count(1) = 1");
    }

    private static void high() {
        Check.sentence("each a number 1 .. 20 (HIGH)");
        Rows.run("", "text 0:9@0 = -20", "text 00:9@0 = -20", "count(0) = 0", "text 1:9@0 = 1", "of(0, 0) = 1", "text 01:9@0 = 1", "of(0, 0) = 1");
        Rows.run("", "text 21:9@0 = -20", "text 99:9@0 = -20", "count(0) = 0", "text 20:9@0 = 1", "of(0, 0) = 20", "text 19:9@0 = 1",
            "of(0, 0) = 19");
        Rows.run("", "text 5:9@0,0:9@0 = -26", "text 5:9@0,21:9@0 = -26", "text 5:9@0, 21:9@0 = -27", "text 5:9@0,20:9@0 = 2");
    }

    private static void fruit() {
        Check.sentence("then : and a number 0 .. 99 (FRUIT)");
        Rows.run("", "text 5:0@0 = 1", "of(0, 1) = 0", "text 5:00@0 = 1", "of(0, 1) = 0", "text 5:99@0 = 1", "of(0, 1) = 99", "text 5:09@0 = 1",
            "of(0, 1) = 9", "text 5:100@0 = -24", "text 5:000@0 = -24", "text 5:@0 = -22", "text 5;9@0 = -21", "text 5:-1@0 = -22");
    }

    private static void ripe() {
        Check.sentence("then @ and a number 0 .. 99 (RIPE)");
        Rows.run("", "text 5:9@0 = 1", "of(0, 2) = 0", "text 5:9@00 = 1", "of(0, 2) = 0", "text 5:9@99 = 1", "of(0, 2) = 99", "text 5:9@09 = 1",
            "of(0, 2) = 9", "text 5:9@100 = -26", "text 5:9@000 = -26", "text 5:9@ = -24", "text 5:9@, = -24", "text 5:9:9 = -23");
    }

    private static void kinds() {
        Check.sentence("p d t w l (KINDS in this order)");
        Rows.run("", "text 1:1@1;p12,d12,t12,w12 = 1", "at(0, 0) = 0", "at(1, 0) = 1", "at(2, 0) = 2", "at(3, 0) = 3");
        Rows.run("", "text 1:1@1;l12,w12,t12,d12 = 1", "at(0, 0) = 4", "at(1, 0) = 3", "at(2, 0) = 2", "at(3, 0) = 1");
        Rows.run("", "text 1:1@1;P12 = -26", "text 1:1@1;x12 = -26", "text 1:1@1;12 = -26", "text 1:1@1;p12,L12 = -30", "text 1:1@1;pd2 = -27");
    }

    private static void digitsOfALadder() {
        Check.sentence("a digit 1 .. 9 (LONG), a digit (PRICE)");
        Rows.run("", "text 1:1@1;p00 = -27", "text 1:1@1;p10 = 1", "at(0, 1) = 1", "at(0, 2) = 0", "text 1:1@1;p99 = 1", "at(0, 1) = 9",
            "at(0, 2) = 9", "text 1:1@1;p999 = -29", "text 1:1@1;p9 = -28", "text 1:1@1;p = -27", "text 1:1@1;px9 = -27", "text 1:1@1;p9x = -28",
            "text 1:1@1;p=0 = -27", "text 1:1@1;p9=0 = -28");
        Rows.run("", "text 1:1@1;p 9 0 = 1", "at(0, 1) = 9", "at(0, 2) = 0");
    }

    private static void whereItLeans() {
        Check.sentence("then perhaps = and a digit of a TREE there is (where it leans)");
        Rows.run("", "text 1:1@1;p11=0 = 1", "at(0, 3) = 0", "text 1:1@1;p11=1 = -30", "at(0, 3) = 0", "text 1:1@1;p11= = -30", "text 1:1@1;p11=x = -30",
            "text 1:1@1;p11=, = -30", "text 1:1@1;p11=00 = -31", "text 1:1@1;p11=0=0 = -31", "text 1:1@1;p11==0 = -30", "text 1:1@1;p11 = 1",
            "at(0, 3) = -4");
        Rows.run("", "text 1:1@1,1:1@1;p11=1 = 2", "at(0, 3) = 1", "text 1:1@1,1:1@1;p11=2 = -36");
        Rows.run("", "text " + SIX + ";p11=5,p11=0,p11,p11=3 = 6", "at(0, 3) = 5", "at(1, 3) = 0", "at(2, 3) = -4", "at(3, 3) = 3",
            "text " + SIX + ";p11=6 = -60", "text " + SIX + ";p11=9 = -60", "of(5, 3) = 1");
    }

    private static void twoDigits() {
        Check.sentence("Numbers have 1 or 2 digits (a third one can't stand there).");
        Rows.run("", "text 100:9@0 = -22", "text 200:9@0 = -22", "text 001:9@0 = -20", "text 010:9@0 = -22", "text 123 = -22", "text 5:123 = -24",
            "text 5:9@123 = -26", "text 5:9@0,123 = -28", "count(0) = 0");
        Check.sentence("or of the number's first digit, if it is not as told");
        Rows.run("", "text 210:9@0 = -20", "text 999 = -20", "text 000 = -20", "text 5:9@0,  30:9@0 = -28", "text 0 = -20", "text   0 = -22",
            "text 21 = -20", "count(0) = 0");
    }

    private static void whatCanStandThere() {
        Check.sentence("-20 less the place of the first letter (behind blanks) that can't stand there");
        stands("", BUT_0);
        stands("1", DIGITS + ":");
        stands("20", ":");
        stands("5:", DIGITS);
        stands("5:9", DIGITS + "@");
        stands("5:99", "@");
        stands("5:9@", DIGITS);
        stands("5:9@9", DIGITS + ",;");
        stands("5:9@99", ",;");
        stands("5:9@99,", BUT_0);
        stands("5:9@99,5:9@99,", BUT_0);
        stands("5:9@99;", "pdtwl");
        stands("5:9@99;p", BUT_0);
        stands("5:9@99;p1", DIGITS);
        stands("5:9@99;p19", "=,");
        stands("5:9@99;p19=", "0");
        stands("5:9@99,5:9@99,5:9@9;p19=", "012");
        stands("5:9@99;p19=0", ",");
        stands("5:9@99;p19,", "pdtwl");
        stands("5:9@99;p19=0,", "pdtwl");
        stands(SIX, DIGITS + ";");
        stands(SIX + "0", ";");
        stands(SIX + ";p19=", "012345");
        stands("5:9@99;p19,p19,p19,p19", "=");
        stands("5:9@99;p19,p19,p19,p19=0", "");
    }

    /** Of all letters but the blank just these can stand behind a text, and with blanks between the same, but no digit goes on a number. */
    private static void stands(String before, String letters) {
        boolean number = !before.isEmpty() && letters.startsWith(DIGITS) && DIGITS.indexOf(before.charAt(before.length() - 1)) >= 0
            && before.indexOf('p') < 0;
        String behindBlanks = number ? letters.substring(DIGITS.length()) : letters;
        for (char letter = 33; letter <= 126; letter++) {
            standsOne(before, letter, letters.indexOf(letter) >= 0);
            standsOne(before + "  ", letter, behindBlanks.indexOf(letter) >= 0);
        }
    }

    private static void standsOne(String before, char letter, boolean can) {
        int answer = Check.readInto(new OrchardLadders(), before + letter);
        int fault = -20 - before.length();
        if (can) {
            Check.holds("\"" + before + letter + "\" has no fault there, " + answer, answer > 0 || answer == fault - 1);
        } else {
            Check.due("\"" + before + letter + "\"", answer, fault);
        }
    }

    private static void theEnd() {
        Check.sentence("(the end: how many there are)");
        String text = "12:34@56,7:8@9;p12=0,l34";
        for (int n = 0; n <= text.length(); n++) {
            int answer = Check.readInto(new OrchardLadders(), text.substring(0, n));
            boolean whole = n >= 7 && n <= 8 || n == 14 || n == 18 || n == 20 || n == 24;
            Check.due("\"" + text.substring(0, n) + "\"", answer, whole ? (n < 9 ? 1 : 2) : -20 - n);
            int blank = Check.readInto(new OrchardLadders(), text.substring(0, n) + "   ");
            Check.due("\"" + text.substring(0, n) + "   \"", blank, whole ? (n < 9 ? 1 : 2) : -23 - n);
        }
        Rows.run("", "orchard() = -20", "text   = -21", "text     = -23");
    }

    private static void blanks() {
        Check.sentence("blanks count for nothing, but end a number");
        Rows.run("", "text  1 : 2 @ 3 , 4 : 5 @ 6 ; p 1 2 = 1 , d 3 4  = 2", "of(0, 0) = 1", "of(0, 1) = 2", "of(0, 2) = 3", "of(1, 0) = 4",
            "of(1, 1) = 5", "of(1, 2) = 6", "at(0, 1) = 1", "at(0, 2) = 2", "at(0, 3) = 1", "at(1, 0) = 1", "at(1, 1) = 3", "at(1, 2) = 4",
            "at(1, 3) = -4");
        Rows.run("", "text 1 2:3@4 = -22", "text 12 3:3@4 = -23", "text 1:2 3@4 = -24", "text 1:2@3 4 = -26", "text 1:2@34  5 = -28",
            "text 2  1:3@4 = -23", "count(0) = 0");
        Rows.run("", "text 1 :2@3 = 1", "text 12 :34 @56  = 1", "of(0, 0) = 12", "of(0, 1) = 34", "of(0, 2) = 56");
        Rows.run("", "text    x = -23", "text 5  x = -23", "text 5:9@9   x = -28", "count(0) = 0");
    }

    private static void inPlaceOfAll() {
        Check.sentence("in place of all TREES, LADDERS; GOT, PAID, LOST 0, DAY 0 (BASKET, WASPS, THE DRAW stay)");
        Rows.run(SIX + ";p11=0,p11=0,p11=0,p11=5", "rule(0, 7) = 5", "rule(1, 2) = 1", "seed(44) = 1", "days(3) = 2", "shake(1) = -2",
            "text 5:9@9 = 1", "count(0) = 1", "count(1) = 0", "count(2) = 0", "count(3) = 0", "count(4) = 0", "count(5) = 0", "count(6) = 9",
            "count(7) = 7", "count(8) = 2", "count(9) = 0", "seed(1) = 44", "of(0, 3) = 0", "of(1, 0) = -1", "at(0, 0) = -1",
            "ladder(0, 1, 1) = 0", "at(0, 3) = -4", "tree(1, 1, 1) = 1", "of(1, 3) = 0");
        Rows.run("5:9@0;p51=0", "days(1) = 5", "drift(1) = 0", "image() = 1", "text 6:7@8;d23=0 = 1", "seed(1) = 1103527590", "restore() = 1",
            "of(0, 0) = 5", "count(2) = 2", "count(9) = 2");
    }

    private static void theTapeIsEmptyThen() {
        Check.sentence("THE TAPE, which is empty then, is AN ORCHARD: how many TREES. A FAULT (all else stays).");
        Rows.run("", "text 5:9@0 = 1", "type(49) = 1", "orchard() = -21", "type(49) = 1");
        Rows.run("", "letters 5:9", "orchard() = -23", "letters @0", "orchard() = -20", "orchard() = -20");
        Rows.run("5:9@0;p51=0", "seed(44) = 1", "days(1) = 5", "text 6:7@8,9:9@9;d23=2 = -36", "count(0) = 1", "count(1) = 1", "count(2) = 1",
            "count(3) = 5", "count(4) = 1", "count(5) = 1", "of(0, 0) = 5", "of(0, 1) = 3", "of(0, 3) = 1", "at(0, 0) = 0", "at(0, 3) = 0",
            "seed(1) = 44", "count(9) = 1", "undo() = 0", "of(0, 1) = 9");
    }
}
