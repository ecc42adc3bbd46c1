/** Promises 7 and 8: the tape, and what it is as an orchard. */
public final class TextTest {
    public static void main(String[] args) {
        typing();
        faults();
        rightTexts();
        whatStays();
        whatGoes();
        Check.end();
    }

    private static void typing() {
        OrchardLadders x = new OrchardLadders();
        int[] wrong = {31, 127, 0, -1, 32 + 65536, Integer.MIN_VALUE, Integer.MAX_VALUE};
        for (int letter : wrong) {
            Check.due("type(" + letter + ")", x.type(letter), -1);
        }
        for (int i = 1; i <= 90; i++) {
            Check.due("letter " + i, x.type(i % 2 == 0 ? 32 : 126), i);
        }
        Check.due("letter 91", x.type(32), -3);
        Check.due("letter 91, bad", x.type(31), -1);
        Check.due("orchard()", x.orchard(), -20);
        Check.due("empty then", x.type(32), 1);
        for (int i = 2; i <= 90; i++) {
            x.type(32);
        }
        Check.due("orchard() of 90 blanks", x.orchard(), -110);
        Check.due("orchard() of nothing", x.orchard(), -20);
    }

    private static void faults() {
        fault("", 0);
        fault("   ", 3);
        fault("x", 0);
        fault("  x", 2);
        fault("0:1@1", 0);
        fault("00:1@1", 0);
        fault("21:1@1", 0);
        fault(" 99", 1);
        fault("210:1@1", 0);
        fault("100:1@1", 2);
        fault("020:1@1", 2);
        fault("2 0:1@1", 2);
        fault("5", 1);
        fault("5  ", 3);
        fault("5@", 1);
        fault("5:", 2);
        fault("5:-1", 2);
        fault("5:100@1", 4);
        fault("5:1;", 3);
        fault("5:1@", 4);
        fault("5:1@100", 6);
        fault("5:1@1 0", 6);
        fault("5:1@1:", 5);
        fault("5:1@1,", 6);
        fault("5:1@1,,", 6);
        fault("5:1@1,;", 6);
        fault("5:1@1,0:", 6);
        fault("5:1@1,5 :1@1 ,x", 14);
        fault("1:1@1,1:1@1,1:1@1,1:1@1,1:1@1,1:1@1,1:1@1", 35);
        fault("5:1@1;", 6);
        fault("5:1@1;;", 6);
        fault("5:1@1;P", 6);
        fault("5:1@1;5", 6);
        fault("5:1@1;p", 7);
        fault("5:1@1;p0", 7);
        fault("5:1@1;p5", 8);
        fault("5:1@1;p5x", 8);
        fault("5:1@1;p5,", 8);
        fault("5:1@1;p555", 9);
        fault("5:1@1;p55=", 10);
        fault("5:1@1;p55=1", 10);
        fault("5:1@1;p55=x", 10);
        fault("5:1@1;p55=00", 11);
        fault("5:1@1;p55==", 10);
        fault("5:1@1;p55=0=", 11);
        fault("5:1@1;p55=0,", 12);
        fault("5:1@1;p55,", 10);
        fault("5:1@1;p55;", 9);
        fault("5:1@1;p55p", 9);
        fault("5:1@1;p55, 5:1@1", 11);
        fault("5:1@1;p11,d11,t11,w11,l11", 21);
        fault("1:1@1,1:1@1,1:1@1,1:1@1,1:1@1,1:1@1;p11=6", 40);
    }

    private static void fault(String text, int place) {
        OrchardLadders x = Check.read("9:8@0;p93=0");
        x.days(1);
        Check.due("\"" + text + "\"", Check.readInto(x, text), -20 - place);
        int[] due = {1, 1, 1, 5, 3, 1, 2, 5, 1, 1};
        for (int what = 0; what < due.length; what++) {
            Check.due("behind \"" + text + "\" count(" + what + ")", x.count(what), due[what]);
        }
        Check.due("behind \"" + text + "\" at(0, 3)", x.at(0, 3), 0);
        Check.due("behind \"" + text + "\" the tape is empty", x.type(53), 1);
    }

    private static void rightTexts() {
        is("5:1@1", "t 5 1 1");
        is("05:01@09", "t 5 1 9");
        is("01:00@00", "t 1 0 0");
        is("20:99@99", "t 20 99 99");
        is("  5  :  1  @  1  ", "t 5 1 1");
        is("5:1@1;p10", "t 5 1 1 l 0 1 0 -4");
        is(" 5 : 1 @ 1 ; p 1 0 = 0 ", "t 5 1 1 l 0 1 0 0");
        is("5:1@1,6:2@3;p10,d99=1,t34,w56=0", "t 5 1 1 t 6 2 3 l 0 1 0 -4 l 1 9 9 1 l 2 3 4 -4 l 3 5 6 0");
        is("5:1@1;l78", "t 5 1 1 l 4 7 8 -4");
        is("1:1@1,2:2@2,3:3@3,4:4@4,5:5@5,6:6@6;p11=5", "t 1 1 1 t 2 2 2 t 3 3 3 t 4 4 4 t 5 5 5 t 6 6 6 l 0 1 1 5");
        is("10:10@10,20:20@20,20:30@30,20:40@40,20:50@50,20:60@60;p11=5,p11=5,p11=5,p11=5",
            "t 10 10 10 t 20 20 20 t 20 30 30 t 20 40 40 t 20 50 50 t 20 60 60 l 0 1 1 5 l 0 1 1 5 l 0 1 1 5 l 0 1 1 5");
    }

    private static void is(String text, String due) {
        OrchardLadders x = new OrchardLadders();
        int trees = due.split("t", -1).length - 1;
        Check.due("\"" + text + "\"", Check.readInto(x, text), trees);
        Check.holds("\"" + text + "\" is " + told(x), told(x).equals(due));
        Check.due("\"" + text + "\" count(0)", x.count(0), trees);
        OrchardLadders y = Check.read("9:9@9,9:9@9,9:9@9,9:9@9,9:9@9,9:9@9;p99=0,p99=0,p99=0,p99=0");
        Check.due("over another, \"" + text + "\"", Check.readInto(y, text), trees);
        Check.holds("over another, \"" + text + "\" is " + told(y), told(y).equals(due));
    }

    private static String told(OrchardLadders x) {
        StringBuilder told = new StringBuilder();
        int leaning = 0;
        for (int t = 0; t < x.count(0); t++) {
            told.append("t ").append(x.of(t, 0)).append(' ').append(x.of(t, 1)).append(' ').append(x.of(t, 2)).append(' ');
            leaning += Integer.bitCount(x.of(t, 3));
        }
        for (int l = 0; l < x.count(1); l++) {
            told.append("l ").append(x.at(l, 0)).append(' ').append(x.at(l, 1)).append(' ').append(x.at(l, 2)).append(' ')
                .append(x.at(l, 3)).append(' ');
            leaning -= x.at(l, 3) == -4 ? 0 : 1;
        }
        return leaning == 0 ? told.toString().trim() : "ladders lean that are not there";
    }

    private static void whatStays() {
        OrchardLadders x = Check.read("9:8@0;p93=0");
        x.rule(0, 17);
        x.rule(1, 4);
        x.seed(77);
        x.image();
        x.sheet(2, 1, 7);
        Check.due("orchard()", Check.readInto(x, "3:4@5"), 1);
        Check.due("BASKET stays", x.count(7), 17);
        Check.due("WASPS stay", x.count(8), 4);
        Check.due("THE DRAW stays", x.seed(1), 77);
        Check.due("the sheet stays", x.drop(2), 7);
        Check.due("the image stays", x.restore(), 1);
        Check.due("the image's ladder", x.count(1), 1);
    }

    private static void whatGoes() {
        OrchardLadders x = Check.read("9:8@0;p93=0");
        x.days(3);
        x.shake(0);
        Check.due("orchard()", Check.readInto(x, "3:4@5,2:1@1"), 2);
        int[] due = {2, 0, 0, 0, 0, 0, 5, 5, 1, 0};
        for (int what = 0; what < due.length; what++) {
            Check.due("anew count(" + what + ")", x.count(what), due[what]);
        }
        Check.due("nothing to be undone", x.undo(), -4);
        Check.due("a further tree", x.tree(1, 1, 1), 2);
        Check.due("a further ladder", x.ladder(1, 1, 1), 0);
        Check.due("it leans nowhere", x.at(0, 3), -4);
    }
}
