/** What a DAY is, UNDONE, DRIFT, and promises 10 to 15, edge by edge: each sentence that names one has rows of its own. */
public final class DaysEdgesTest {
    private static final int LAST = 9999;

    public static void main(String[] args) {
        paid();
        ripe();
        farEnough();
        basketAtMost();
        wasps();
        nextDay();
        days();
        theLastDay();
        lean();
        shake();
        undoneAsAhead();
        eightAreKnown();
        undo();
        seed();
        theDraw();
        shakenByTheDraw();
        drift();
        calls512();
        Check.end();
    }

    private static void paid() {
        Check.sentence("each LADDER that leans at a TREE, rising, is PAID its PRICE");
        Rows.run("5:9@99;p53=0", "days(1) = 0", "count(4) = 3");
        Rows.run("5:9@0;p43=0", "days(1) = 0", "count(4) = 3");
        Rows.run("5:0@0;p53=0", "days(1) = 0", "count(4) = 3");
        Rows.run("5:9@0;l53=0", "days(1) = 0", "count(4) = 3");
        Rows.run("5:9@0;p53", "days(1) = 0", "count(4) = 0");
        Rows.run("5:9@0;p50=0", "days(1) = 5", "count(4) = 0");
        Rows.run("5:9@0;p59=0,p59=0,p59=0,p59=0", "days(1) = 9", "count(4) = 36", "days(40) = 0", "count(4) = 1476");
    }

    private static void ripe() {
        Check.sentence("if the TREE is RIPE");
        Rows.run("5:9@0;p50=0", "days(1) = 5", "of(0, 1) = 3");
        Rows.run("5:9@1;p50=0", "days(1) = 0", "of(0, 1) = 9", "count(5) = 0", "days(1) = 5", "of(0, 1) = 3", "count(5) = 1");
        Rows.run("5:9@99;p50=0", "days(40) = 0", "days(40) = 0", "days(19) = 0", "count(2) = 99", "of(0, 1) = 9", "days(1) = 5",
            "of(0, 1) = 3", "days(1) = 3", "of(0, 1) = 0");
    }

    private static void farEnough() {
        Check.sentence("and it REACHES as far as that is HIGH, or farther");
        Rows.run("5:9@0;p40=0", "days(1) = 0", "of(0, 1) = 8");
        Rows.run("5:9@0;p50=0", "days(1) = 5", "of(0, 1) = 3");
        Rows.run("5:9@0;p60=0", "days(1) = 5", "of(0, 1) = 3");
        Rows.run("1:9@0;l90=0", "days(1) = 0", "days(1) = 5");
        Rows.run("18:9@0,19:9@0;t90=0,t90=1", "days(1) = 5", "of(0, 1) = 3", "of(1, 1) = 8");
    }

    private static void basketAtMost() {
        Check.sentence("it takes FRUIT there, BASKET at most: GOT is so much more");
        Rows.run("5:4@0;p50=0", "rule(1, 0) = 1", "days(1) = 4", "of(0, 1) = 0", "count(3) = 4");
        Rows.run("5:5@0;p50=0", "rule(1, 0) = 1", "days(1) = 5", "of(0, 1) = 0", "count(3) = 5");
        Rows.run("5:6@0;p50=0", "rule(1, 0) = 1", "days(1) = 5", "of(0, 1) = 1", "count(3) = 5");
        Rows.run("5:0@0;p50=0", "rule(1, 0) = 1", "days(1) = 0", "of(0, 1) = 0", "count(3) = 0");
        Rows.run("5:99@0;p50=0", "rule(0, 30) = 5", "days(1) = 30", "of(0, 1) = 68", "rule(0, 1) = 30", "days(1) = 1", "of(0, 1) = 66");
        Rows.run("5:9@0;p50=0,p50=0", "rule(1, 0) = 1", "days(1) = 9", "of(0, 1) = 0", "count(3) = 9");
        Rows.run("5:11@0;p50=0,p50=0", "rule(1, 0) = 1", "days(1) = 10", "of(0, 1) = 1");
        Rows.run("5:99@0;p50=0,p50=0,p50=0,p50=0", "rule(0, 30) = 5", "days(1) = 99", "of(0, 1) = 0", "count(5) = 0");
    }

    private static void wasps() {
        Check.sentence("Then at each TREE that is RIPE as much FRUIT as there are WASPS is LOST (at most all).");
        Rows.run("5:2@0,5:3@0,5:4@0,5:0@0,5:9@1", "rule(1, 3) = 1", "days(1) = 0", "of(0, 1) = 0", "of(1, 1) = 0", "of(2, 1) = 1",
            "of(3, 1) = 0", "of(4, 1) = 9", "count(5) = 8", "days(1) = 0", "of(2, 1) = 0", "of(4, 1) = 6", "count(5) = 12");
        Rows.run("5:6@0;p50=0", "days(1) = 5", "of(0, 1) = 0", "count(5) = 1");
        Rows.run("5:5@0;p50=0", "days(1) = 5", "of(0, 1) = 0", "count(5) = 0");
        Rows.run("5:9@0", "rule(1, 0) = 1", "days(40) = 0", "of(0, 1) = 9", "count(5) = 0");
        Rows.run("5:20@0", "rule(1, 9) = 1", "days(1) = 0", "of(0, 1) = 11", "days(1) = 0", "of(0, 1) = 2", "days(1) = 0",
            "of(0, 1) = 0", "count(5) = 20");
    }

    private static void nextDay() {
        Check.sentence("It is the next DAY.");
        Rows.run("", "days(1) = 0", "count(2) = 1", "drift(1) = 0", "count(2) = 2", "days(40) = 0", "count(2) = 42");
    }

    private static void days() {
        Check.sentence("n DAYS (1 .. 40; each by itself may be UNDONE): how much is GOT in them.");
        Rows.run("5:99@0;p50=0", "days(0) = -1", "count(2) = 0", "days(1) = 5", "count(2) = 1", "days(1) = 5", "count(3) = 10");
        Rows.run("5:99@0;p50=0", "days(41) = -1", "count(2) = 0", "days(40) = 83", "count(2) = 40");
        Rows.run("5:99@0;p50=0", "days(-1) = -1", "days(MIN) = -1", "days(MAX) = -1", "count(2) = 0", "count(9) = 0");
        Rows.run("5:99@0;p50=0", "days(3) = 15", "count(9) = 3", "undo() = 2", "count(2) = 2", "count(3) = 10", "undo() = 1",
            "count(2) = 1", "count(3) = 5", "undo() = 0", "count(2) = 0", "count(3) = 0", "of(0, 1) = 99");
        Rows.run("", "days(40) = 0", "count(3) = 0");
    }

    private static void theLastDay() {
        Check.sentence("FULL: the DAY would be above 9999.");
        OrchardLadders x = upTo(LAST - 40);
        Check.due("on day 9959 days(41)", x.days(41), -1);
        Check.due("on day 9959 days(40)", x.days(40), 0);
        Check.due("it is day 9999", x.count(2), LAST);
        Check.due("on day 9999 days(1)", x.days(1), -3);
        Check.due("on day 9999 days(40)", x.days(40), -3);
        Check.due("on day 9999 days(0)", x.days(0), -1);
        Check.due("on day 9999 days(41)", x.days(41), -1);
        Check.due("still day 9999", x.count(2), LAST);
        Check.due("as many may be undone", x.count(9), 8);
        x = upTo(LAST - 39);
        Check.due("on day 9960 days(40)", x.days(40), -3);
        Check.due("it is day 9960", x.count(2), LAST - 39);
        Check.due("on day 9960 days(39)", x.days(39), 0);
        Check.due("it is day 9999", x.count(2), LAST);
        Check.sentence("how much is LOST in them. BAD; FULL: likewise.");
        x = upTo(LAST - 40);
        Check.due("on day 9959 drift(41)", x.drift(41), -1);
        Check.due("on day 9959 drift(40)", x.drift(40), 0);
        Check.due("it is day 9999", x.count(2), LAST);
        int draw = x.seed(7);
        Check.due("on day 9999 drift(1)", x.drift(1), -3);
        Check.due("on day 9999 drift(0)", x.drift(0), -1);
        Check.due("the draw is as it was", x.seed(draw), 7);
        Check.due("still day 9999", x.count(2), LAST);
        x = upTo(LAST - 39);
        Check.due("on day 9960 drift(40)", x.drift(40), -3);
        Check.due("the draw is as it was", x.seed(1), 1);
        Check.due("on day 9960 drift(39)", x.drift(39), 0);
        Check.due("it is day 9999", x.count(2), LAST);
        onTheLastDay();
    }

    private static OrchardLadders upTo(int day) {
        OrchardLadders x = new OrchardLadders();
        for (int d = 0; d < day / 40; d++) {
            x.days(40);
        }
        if (day % 40 > 0) {
            x.days(day % 40);
        }
        Check.due("the day", x.count(2), day);
        return x;
    }

    private static void onTheLastDay() {
        Check.sentence("FORETOLD from now (nothing is changed), n DAYS on (0 .. 60)");
        OrchardLadders x = upTo(LAST);
        x.tree(2, 99, 99);
        x.tree(9, 9, 99);
        x.ladder(0, 2, 1);
        x.ladder(1, 9, 2);
        x.ladder(4, 9, 3);
        Check.due("on day 9999, a multiple of 3, DEWY", x.at(1, 4), 2);
        Check.due("on day 9999, LENT", x.at(2, 4), 18);
        Check.due("four days on, a multiple of 7", x.reached(1, 4), 2);
        Check.due("six days on, a multiple of 3", x.reached(1, 6), 4);
        x.lean(0, 0);
        Check.due("ahead(60, 0)", x.ahead(60, 0), 83);
        Check.due("ahead(60, 1)", x.ahead(60, 1), 60);
        Check.due("plan(1, NONE)", x.plan(1, -4), 15);
        Check.due("plan(14, NONE)", x.plan(14, -4), 98);
        Check.due("it is still day 9999", x.count(2), LAST);
        Check.due("lean(0, NONE)", x.lean(0, -4), 0);
        Check.due("shake(0)", x.shake(0), 49);
        Check.due("undo()", x.undo(), 2);
        Check.due("of(0, 1)", x.of(0, 1), 99);
    }

    private static void lean() {
        Check.sentence("A LADDER leans at a TREE, or nowhere (NONE): where it did (NONE).");
        Rows.run("5:9@0,5:9@0;p50,p50", "lean(0, 0) = -4", "at(0, 3) = 0", "lean(0, 1) = 0", "at(0, 3) = 1", "lean(0, -4) = 1",
            "at(0, 3) = -4", "at(1, 3) = -4", "count(9) = 3");
        Rows.run("1:1@0,1:1@0,1:1@0,1:1@0,1:1@0,1:1@0;p10,p10,p10,p10", "lean(3, 5) = -4", "lean(4, 5) = -1", "lean(3, 6) = -1",
            "lean(-1, 5) = -1", "lean(3, -1) = -1", "at(3, 3) = 5", "count(9) = 1");
        Rows.run("5:9@0;p50", "lean(1, 0) = -1", "lean(0, 1) = -1", "lean(MIN, 0) = -1", "lean(MAX, 0) = -1", "lean(0, MIN) = -1",
            "lean(0, MAX) = -1", "at(0, 3) = -4", "count(9) = 0");
        Rows.run("5:9@0;p50=0", "lean(0, -2) = -1", "lean(0, -3) = -1", "lean(0, -5) = -1", "at(0, 3) = 0");
        Rows.run("", "lean(0, -4) = -1", "lean(0, 0) = -1");
        Rows.run("", "ladder(0, 1, 1) = 0", "lean(0, 0) = -1", "lean(0, -4) = -2");
        Check.sentence("NOT: it does so.");
        Rows.run("5:9@0,5:9@0;p50=1,p50", "lean(0, 1) = -2", "lean(1, -4) = -2", "at(0, 3) = 1", "at(1, 3) = -4", "count(9) = 0");
        Rows.run("5:9@0,5:9@0;p50=1,p50", "lean(0, 0) = 1", "lean(0, 0) = -2", "count(9) = 1", "lean(0, -4) = 0", "lean(0, -4) = -2",
            "count(9) = 2");
    }

    private static void shake() {
        Check.sentence("A TREE is shaken: how much is LOST. BAD; NOT: it has no FRUIT.");
        Rows.run("5:0@0", "shake(0) = -2", "count(9) = 0", "count(5) = 0");
        Rows.run("5:9@0", "shake(1) = -1", "shake(-1) = -1", "shake(-4) = -1", "shake(MIN) = -1", "shake(MAX) = -1", "of(0, 1) = 9",
            "count(9) = 0");
        Rows.run("1:1@0,1:1@0,1:1@0,1:1@0,1:1@0,1:9@0", "shake(6) = -1", "shake(5) = 4", "of(5, 1) = 5", "count(6) = 10");
        Rows.run("5:2@0;p50=0", "shake(0) = 1", "of(0, 1) = 1", "days(1) = 1", "shake(0) = -2", "count(9) = 2");
        Check.sentence("What is divided is cut.");
        Rows.run("5:7@0", "shake(0) = 3", "of(0, 1) = 4", "shake(0) = 2", "of(0, 1) = 2", "shake(0) = 1", "of(0, 1) = 1", "shake(0) = 0", "of(0, 1) = 1");
        Check.sentence("is shaken: a half of its FRUIT is LOST (cut)");
        Rows.run("5:1@0", "shake(0) = 0", "of(0, 1) = 1", "count(5) = 0", "count(9) = 1");
        Rows.run("5:2@0", "shake(0) = 1", "of(0, 1) = 1", "count(5) = 1");
        Rows.run("5:3@0", "shake(0) = 1", "of(0, 1) = 2", "count(5) = 1");
        Rows.run("5:99@99", "shake(0) = 49", "of(0, 1) = 50", "count(5) = 49", "shake(0) = 25", "of(0, 1) = 25", "count(5) = 74",
            "count(3) = 0", "count(2) = 0");
    }

    private static void undoneAsAhead() {
        Check.sentence("UNDONE: the latest DAY, LADDER leant elsewhere, TREE shaken is as it had not been");
        Rows.run("5:20@0;p50", "lean(0, 0) = -4", "shake(0) = 10", "days(1) = 5", "undo() = 2", "count(2) = 0", "of(0, 1) = 10", "at(0, 3) = 0",
            "undo() = 1", "of(0, 1) = 20", "at(0, 3) = 0", "undo() = 0", "at(0, 3) = -4", "of(0, 1) = 20", "undo() = -4");
        Check.sentence("FRUIT, where LADDERS lean, GOT, PAID, LOST, the DAY, THE DRAW are as ahead of it, whatever was told since");
        Rows.run("5:20@0,5:9@0;p53=0,p54", "seed(77) = 1", "days(1) = 5", "of(0, 1) = 14", "count(4) = 3", "count(5) = 2", "seed(5) = 77",
            "undo() = 0", "of(0, 1) = 20", "of(1, 1) = 9", "count(2) = 0", "count(3) = 0", "count(4) = 0", "count(5) = 0", "seed(1) = 77");
        Rows.run("5:20@0,5:9@0;p53=0,p54", "days(1) = 5", "lean(0, 1) = 0", "seed(5) = 1", "undo() = 1", "at(0, 3) = 0", "of(1, 3) = 0",
            "count(2) = 1", "count(3) = 5", "seed(1) = 1");
        Rows.run("5:20@0;p53=0", "days(1) = 5", "lean(0, -4) = 0", "undo() = 1", "at(0, 3) = 0", "of(0, 3) = 1");
        Rows.run("5:20@0;p53", "lean(0, 0) = -4", "undo() = 0", "at(0, 3) = -4", "of(0, 3) = 0");
        Rows.run("5:20@0,5:9@0", "shake(0) = 10", "seed(5) = 1", "undo() = 0", "of(0, 1) = 20", "count(5) = 0", "seed(1) = 1");
        Rows.run("5:20@0", "seed(9) = 1", "undo() = -4", "seed(1) = 9");
        Rows.run("5:20@0;p50=0", "days(1) = 5", "rule(0, 9) = 5", "rule(1, 2) = 1", "undo() = 0", "count(7) = 9", "count(8) = 2",
            "days(1) = 9", "of(0, 1) = 9");
        Rows.run("5:20@0;p50=0", "days(1) = 5", "letters 5:9", "sheet(0, 0, 3) = 3", "undo() = 0", "type(64) = 4", "drop(0) = 3");
        Check.sentence("AN ORCHARD, a new TREE, LADDER leave nothing to be UNDONE");
        Rows.run("5:20@0;p50=0", "days(3) = 15", "text 5:9@0 = 1", "count(9) = 0", "undo() = -4", "count(2) = 0", "of(0, 1) = 9");
        Rows.run("5:20@0;p50=0", "days(3) = 15", "text 5:9@ = -24", "count(9) = 3", "undo() = 2", "count(2) = 2");
    }

    private static void eightAreKnown() {
        Check.sentence("(8 are known, older ones lost)");
        Rows.run("", "days(7) = 0", "count(9) = 7", "days(1) = 0", "count(9) = 8", "days(1) = 0", "count(9) = 8");
        Rows.run("", "days(9) = 0", "undo() = 7", "undo() = 6", "undo() = 5", "undo() = 4", "undo() = 3", "undo() = 2", "undo() = 1",
            "undo() = 0", "count(2) = 1", "undo() = -4", "count(2) = 1");
        Rows.run("", "days(8) = 0", "undo() = 7", "undo() = 6", "undo() = 5", "undo() = 4", "undo() = 3", "undo() = 2", "undo() = 1",
            "undo() = 0", "count(2) = 0", "undo() = -4");
        Rows.run("5:20@0,5:9@0;p50", "lean(0, 0) = -4", "lean(0, 1) = 0", "lean(0, 0) = 1", "shake(0) = 10", "shake(0) = 5",
            "days(1) = 5", "drift(1) = 1", "lean(0, 1) = 0", "count(9) = 8", "lean(0, -4) = 1", "count(9) = 8", "undo() = 7",
            "at(0, 3) = 1", "undo() = 6", "at(0, 3) = 0", "undo() = 5", "count(2) = 1", "undo() = 4", "count(2) = 0", "of(0, 1) = 5",
            "undo() = 3", "of(0, 1) = 10", "undo() = 2", "of(0, 1) = 20", "at(0, 3) = 0", "undo() = 1", "at(0, 3) = 1", "undo() = 0",
            "at(0, 3) = 0", "undo() = -4", "at(0, 3) = 0");
        Rows.run("", "days(40) = 0", "count(9) = 8", "undo() = 7", "days(2) = 0", "count(9) = 8", "undo() = 7", "count(2) = 40",
            "undo() = 6", "count(2) = 39", "undo() = 5", "undo() = 4", "undo() = 3", "undo() = 2", "undo() = 1", "undo() = 0",
            "count(2) = 33", "undo() = -4");
    }

    private static void undo() {
        Check.sentence("UNDONE: how many more may be. NONE: none is known.");
        Rows.run("", "undo() = -4", "undo() = -4", "days(1) = 0", "undo() = 0", "undo() = -4", "days(2) = 0", "undo() = 1", "days(1) = 0",
            "undo() = 1", "undo() = 0", "undo() = -4", "count(2) = 0");
    }

    private static void seed() {
        Check.sentence("THE DRAW becomes v: what it was. BAD: below 0.");
        Rows.run("", "seed(-1) = -1", "seed(MIN) = -1", "seed(0) = 1", "seed(MAX) = 0", "seed(1) = 2147483647", "seed(1) = 1", "count(9) = 0");
    }

    private static void theDraw() {
        Check.sentence("it becomes the lowest 31 bits of itself times 1103515245 and 12345 more");
        Rows.run("", "drift(1) = 0", "seed(0) = 1103527590", "drift(1) = 0", "seed(2) = 12345", "drift(1) = 0", "seed(37) = 59559187",
            "drift(1) = 0", "seed(MAX) = 27887098", "drift(1) = 0", "seed(2147483646) = 1043980748", "drift(1) = 0",
            "seed(1) = 2087949151");
        Rows.run("", "drift(3) = 0", "seed(1) = 662824084", "drift(12) = 0", "seed(1) = 836760821");
        Rows.run("", "days(40) = 0", "seed(1) = 1", "ahead(60, 2) = 0", "seed(1) = 1");
    }

    private static void shakenByTheDraw() {
        Check.sentence("if it by 65536, left over by 4, is 0, and there are TREES, the TREE that is it by 65536, left over by how many there are, is shaken");
        Rows.run("9:99@99", "seed(1) = 1", "drift(1) = 0", "seed(3) = 1103527590", "drift(1) = 0", "seed(4) = 1163074432",
            "drift(1) = 0", "of(0, 1) = 99");
        Rows.run("9:99@99", "seed(0) = 1", "drift(1) = 49", "of(0, 1) = 50", "seed(2) = 12345", "drift(1) = 25", "of(0, 1) = 25");
        Rows.run("9:99@99", "seed(16) = 1", "drift(1) = 0", "seed(19) = 476387081", "drift(1) = 49", "seed(1) = 1639449168");
        Rows.run("9:90@99,9:91@99,9:92@99", "seed(2) = 1", "drift(1) = 46", "of(0, 1) = 90", "of(1, 1) = 91", "of(2, 1) = 46");
        Rows.run("9:90@99,9:91@99,9:92@99", "seed(7) = 1", "drift(1) = 45", "of(0, 1) = 90", "of(1, 1) = 46", "of(2, 1) = 92");
        Rows.run("9:90@99,9:91@99,9:92@99", "seed(9) = 1", "drift(1) = 45", "of(0, 1) = 45", "of(1, 1) = 91", "of(2, 1) = 92");
        Rows.run("9:90@99,9:91@99,9:92@99,9:93@99,9:94@99", "seed(7) = 1", "drift(1) = 47", "of(4, 1) = 47", "count(6) = 413");
        Rows.run("9:90@99,9:91@99,9:92@99,9:93@99,9:94@99,9:96@99", "seed(7) = 1", "drift(1) = 47", "of(4, 1) = 47", "of(5, 1) = 96");
        Rows.run("", "seed(0) = 1", "drift(1) = 0", "seed(1) = 12345");
        Rows.run("9:0@99", "seed(0) = 1", "drift(1) = 0", "count(9) = 1");
        Rows.run("9:1@99", "seed(0) = 1", "drift(1) = 0", "of(0, 1) = 1");
        Check.sentence("ahead of each DAY of a DRIFT");
        Rows.run("5:10@0;p50=0", "rule(1, 0) = 1", "seed(0) = 1", "drift(1) = 5", "count(3) = 5", "of(0, 1) = 0");
        Rows.run("5:11@0;p50=0", "seed(0) = 1", "drift(1) = 6", "count(3) = 5", "count(5) = 6", "of(0, 1) = 0");
    }

    private static void drift() {
        Check.sentence("A DRIFT of n DAYS (1 .. 40; each with what was shaken ahead of it one that may be UNDONE): how much is LOST in them.");
        Rows.run("5:99@0", "drift(0) = -1", "drift(-1) = -1", "drift(MIN) = -1", "drift(MAX) = -1", "drift(41) = -1", "count(2) = 0",
            "seed(1) = 1", "count(9) = 0");
        Rows.run("5:99@0", "drift(1) = 1", "count(2) = 1", "drift(1) = 1", "count(5) = 2", "count(9) = 2");
        Rows.run("", "drift(40) = 0", "count(2) = 40", "count(9) = 8", "undo() = 7", "count(2) = 39");
        Rows.run("5:99@99", "seed(0) = 1", "drift(1) = 49", "count(9) = 1", "undo() = 0", "of(0, 1) = 99", "count(5) = 0", "count(2) = 0",
            "seed(1) = 0");
        Rows.run("5:99@99", "drift(9) = 49", "count(9) = 8", "undo() = 7", "of(0, 1) = 99", "count(2) = 8", "seed(1) = 486256185",
            "undo() = 6", "count(2) = 7", "seed(1) = 1508029952");
    }

    private static void calls512() {
        Check.sentence("An object is used for at most 512 calls after it has been made");
        OrchardLadders x = new OrchardLadders();
        for (int call = 0; call < 510; call++) {
            x.count(0);
        }
        Check.due("the 511th call", x.tree(5, 9, 0), 0);
        Check.due("the 512th call", x.count(0), 1);
    }
}
