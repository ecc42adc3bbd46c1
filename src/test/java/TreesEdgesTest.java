/** Part 1 of the document's Terms and promises 1 to 6 and 9, edge by edge: each sentence that names one has rows of its own. */
public final class TreesEdgesTest {
    private static final String SIX = "1:1@0,2:2@0,3:3@0,4:4@0,5:5@0,6:6@0";

    public static void main(String[] args) {
        aNewObject();
        numbersOfATree();
        treesAsTheyCome();
        numbersOfALadder();
        laddersAsTheyCome();
        rules();
        plain();
        dewy();
        tied();
        widowed();
        lent();
        of();
        at();
        count();
        Check.end();
    }

    private static void aNewObject() {
        Check.sentence("`OrchardLadders()`: No trees.");
        Rows.run("", "count(0) = 0", "of(0, 0) = -1", "shake(0) = -1", "fruit(0, 0) = -1", "reached(0, 0) = -1", "gathered() = 0");
        Rows.run("", "count(1) = 0", "at(0, 0) = -1", "lean(0, -4) = -1", "longer(0, 0) = -1");
        Check.sentence("BASKET is 1 .. 30 (5 at first), WASPS 0 .. 9 (1 at first).");
        Rows.run("", "count(7) = 5", "count(8) = 1");
        Check.sentence("GOT, PAID, LOST are 0, it is DAY 0 at first.");
        Rows.run("", "count(3) = 0", "count(4) = 0", "count(5) = 0", "count(2) = 0", "count(6) = 0");
        Check.sentence("(8 are known, older ones lost)");
        Rows.run("", "count(9) = 0", "undo() = -4");
        Check.sentence("THE DRAW is a number of 31 bits (1 at first)");
        Rows.run("", "seed(1) = 1");
        Check.sentence("sheets 0 .. 3: nothing (at first)");
        Rows.run("", "drop(0) = -11", "drop(1) = -11", "drop(2) = -11", "drop(3) = -11");
        Check.sentence("NONE: there is none.");
        Rows.run("", "restore() = -4");
        Check.sentence("One letter more behind THE TAPE: how many it has.");
        Rows.run("", "type(49) = 1");
    }

    private static void numbersOfATree() {
        Check.sentence("are HIGH by 1 .. 20");
        Rows.run("", "tree(0, 5, 5) = -1", "count(0) = 0", "tree(1, 5, 5) = 0", "of(0, 0) = 1");
        Rows.run("", "tree(21, 5, 5) = -1", "count(0) = 0", "tree(20, 5, 5) = 0", "of(0, 0) = 20");
        Rows.run("", "tree(-1, 5, 5) = -1", "tree(MIN, 5, 5) = -1", "tree(MAX, 5, 5) = -1", "count(0) = 0");
        Check.sentence("have FRUIT (0 .. 99)");
        Rows.run("", "tree(5, -1, 5) = -1", "count(0) = 0", "tree(5, 0, 5) = 0", "of(0, 1) = 0");
        Rows.run("", "tree(5, 100, 5) = -1", "count(0) = 0", "tree(5, 99, 5) = 0", "of(0, 1) = 99");
        Rows.run("", "tree(5, MIN, 5) = -1", "tree(5, MAX, 5) = -1", "count(0) = 0");
        Check.sentence("are RIPE from a DAY on (0 .. 99)");
        Rows.run("", "tree(5, 5, -1) = -1", "count(0) = 0", "tree(5, 5, 0) = 0", "of(0, 2) = 0");
        Rows.run("", "tree(5, 5, 100) = -1", "count(0) = 0", "tree(5, 5, 99) = 0", "of(0, 2) = 99");
        Rows.run("", "tree(5, 5, MIN) = -1", "tree(5, 5, MAX) = -1", "count(0) = 0");
    }

    private static void treesAsTheyCome() {
        Check.sentence("TREES 0 .. 5, as they come");
        Rows.run("", "tree(9, 1, 1) = 0", "tree(2, 2, 2) = 1", "of(0, 0) = 9", "of(1, 0) = 2", "of(2, 0) = -1", "of(-1, 0) = -1");
        Check.sentence("A TREE: its number. BAD; FULL: 6.");
        Rows.run("", "tree(1, 1, 1) = 0", "tree(2, 2, 2) = 1", "tree(3, 3, 3) = 2", "tree(4, 4, 4) = 3", "tree(5, 5, 5) = 4",
            "tree(6, 6, 6) = 5", "tree(7, 7, 7) = -3", "count(0) = 6", "of(0, 0) = 1", "of(1, 0) = 2", "of(2, 0) = 3",
            "of(3, 0) = 4", "of(4, 0) = 5", "of(5, 0) = 6", "of(6, 0) = -1");
        Rows.run(SIX, "tree(1, 1, 1) = -3", "count(0) = 6", "count(6) = 21");
        Rows.run("1:1@0", "tree(2, 2, 2) = 1", "count(0) = 2");
        Check.sentence("AN ORCHARD, a new TREE, LADDER leave nothing to be UNDONE");
        Rows.run("1:1@0", "days(2) = 0", "count(9) = 2", "tree(1, 1, 1) = 1", "count(9) = 0", "undo() = -4", "count(2) = 2");
        Rows.run(SIX, "days(2) = 0", "tree(1, 1, 1) = -3", "count(9) = 2", "undo() = 1", "count(2) = 1");
        Rows.run("1:1@0", "days(2) = 0", "tree(0, 1, 1) = -1", "count(9) = 2", "undo() = 1", "count(2) = 1");
    }

    private static void numbersOfALadder() {
        Check.sentence("How far a LADDER REACHES on a DAY, by KIND: 0 PLAIN");
        Rows.run("", "ladder(-1, 5, 5) = -1", "count(1) = 0", "ladder(0, 5, 5) = 0", "at(0, 0) = 0");
        Check.sentence("4 LENT (below TIED): as TIED");
        Rows.run("", "ladder(5, 5, 5) = -1", "count(1) = 0", "ladder(4, 5, 5) = 0", "at(0, 0) = 4");
        Rows.run("", "ladder(MIN, 5, 5) = -1", "ladder(MAX, 5, 5) = -1", "count(1) = 0");
        Check.sentence("LONG by 1 .. 9");
        Rows.run("", "ladder(0, 0, 5) = -1", "count(1) = 0", "ladder(0, 1, 5) = 0", "at(0, 1) = 1");
        Rows.run("", "ladder(0, 10, 5) = -1", "count(1) = 0", "ladder(0, 9, 5) = 0", "at(0, 1) = 9");
        Rows.run("", "ladder(0, -1, 5) = -1", "ladder(0, MIN, 5) = -1", "ladder(0, MAX, 5) = -1", "count(1) = 0");
        Check.sentence("of a PRICE (0 .. 9) a DAY");
        Rows.run("", "ladder(0, 5, -1) = -1", "count(1) = 0", "ladder(0, 5, 0) = 0", "at(0, 2) = 0");
        Rows.run("", "ladder(0, 5, 10) = -1", "count(1) = 0", "ladder(0, 5, 9) = 0", "at(0, 2) = 9");
        Rows.run("", "ladder(0, 5, MIN) = -1", "ladder(0, 5, MAX) = -1", "count(1) = 0");
        Check.sentence("lean at a TREE, or nowhere (at first)");
        Rows.run("5:9@0", "ladder(0, 5, 5) = 0", "at(0, 3) = -4", "of(0, 3) = 0", "days(1) = 0", "count(4) = 0");
        Rows.run("5:9@0;p50=0,p50=0,p50=0", "ladder(0, 5, 5) = 3", "at(3, 3) = -4", "of(0, 3) = 7");
        Rows.run("", "tree(5, 9, 0) = 0", "of(0, 3) = 0", "ladder(0, 5, 5) = 0", "of(0, 3) = 0", "at(0, 3) = -4", "days(1) = 0");
    }

    private static void laddersAsTheyCome() {
        Check.sentence("LADDERS 0 .. 3, as they come, are of a KIND");
        Rows.run("", "ladder(4, 9, 1) = 0", "ladder(0, 2, 2) = 1", "at(0, 0) = 4", "at(1, 0) = 0", "at(2, 0) = -1", "at(-1, 0) = -1");
        Check.sentence("A LADDER: its number. BAD; FULL: 4.");
        Rows.run("", "ladder(0, 1, 1) = 0", "ladder(1, 2, 2) = 1", "ladder(2, 3, 3) = 2", "ladder(3, 4, 4) = 3",
            "ladder(4, 5, 5) = -3", "count(1) = 4", "at(0, 1) = 1", "at(1, 1) = 2", "at(2, 1) = 3", "at(3, 1) = 4", "at(4, 1) = -1");
        Rows.run("5:9@0;p11,p22,p33,p44", "ladder(4, 5, 5) = -3", "count(1) = 4", "at(3, 2) = 4");
        Check.sentence("AN ORCHARD, a new TREE, LADDER leave nothing to be UNDONE");
        Rows.run("1:1@0", "days(2) = 0", "count(9) = 2", "ladder(0, 1, 1) = 0", "count(9) = 0", "undo() = -4", "count(2) = 2");
        Rows.run("1:1@0;p11,p22,p33,p44", "days(2) = 0", "ladder(0, 1, 1) = -3", "count(9) = 2", "undo() = 1", "count(2) = 1");
        Rows.run("1:1@0", "days(2) = 0", "ladder(5, 1, 1) = -1", "count(9) = 2", "undo() = 1", "count(2) = 1");
    }

    private static void rules() {
        Check.sentence("BASKET is 1 .. 30 (5 at first)");
        Rows.run("", "rule(0, 0) = -1", "count(7) = 5", "rule(0, 1) = 5", "count(7) = 1");
        Rows.run("", "rule(0, 31) = -1", "count(7) = 5", "rule(0, 30) = 5", "count(7) = 30");
        Rows.run("", "rule(0, MIN) = -1", "rule(0, MAX) = -1", "rule(0, -1) = -1", "count(7) = 5");
        Check.sentence("WASPS 0 .. 9 (1 at first)");
        Rows.run("", "rule(1, -1) = -1", "count(8) = 1", "rule(1, 0) = 1", "count(8) = 0");
        Rows.run("", "rule(1, 10) = -1", "count(8) = 1", "rule(1, 9) = 1", "count(8) = 9");
        Rows.run("", "rule(1, MIN) = -1", "rule(1, MAX) = -1", "count(8) = 1");
        Check.sentence("0 BASKET, 1 WASPS becomes v: what it was. BAD.");
        Rows.run("", "rule(-1, 5) = -1", "rule(2, 5) = -1", "rule(MIN, 5) = -1", "rule(MAX, 5) = -1", "count(7) = 5", "count(8) = 1");
        Rows.run("", "rule(0, 7) = 5", "rule(0, 8) = 7", "count(7) = 8", "count(8) = 1");
        Rows.run("", "rule(1, 7) = 1", "rule(1, 8) = 7", "count(8) = 8", "count(7) = 5");
        Rows.run("", "rule(0, 5) = 5", "rule(1, 1) = 1", "count(7) = 5", "count(8) = 1");
    }

    private static void plain() {
        Check.sentence("0 PLAIN: as far as it is LONG.");
        Rows.run("", "ladder(0, 1, 0) = 0", "ladder(0, 9, 0) = 1", "at(0, 4) = 1", "at(1, 4) = 9", "days(3) = 0", "at(0, 4) = 1",
            "at(1, 4) = 9", "days(4) = 0", "at(1, 4) = 9", "days(14) = 0", "at(0, 4) = 1", "at(1, 4) = 9");
    }

    private static void dewy() {
        Check.sentence("1 DEWY: as PLAIN, but on DAYS that are a multiple of 3 (0, too) 2 at most.");
        String[] ladders = {"ladder(1, 1, 0) = 0", "ladder(1, 2, 0) = 1", "ladder(1, 3, 0) = 2", "ladder(1, 9, 0) = 3"};
        reachOn(ladders, 0, "1 2 2 2");
        reachOn(ladders, 1, "1 2 3 9");
        reachOn(ladders, 2, "1 2 3 9");
        reachOn(ladders, 3, "1 2 2 2");
        reachOn(ladders, 4, "1 2 3 9");
        reachOn(ladders, 6, "1 2 2 2");
        reachOn(ladders, 7, "1 2 3 9");
        reachOn(ladders, 39, "1 2 2 2");
    }

    private static void tied() {
        Check.sentence("2 TIED (below PLAIN): twice as far.");
        String[] ladders = {"ladder(2, 1, 0) = 0", "ladder(2, 2, 0) = 1", "ladder(2, 3, 0) = 2", "ladder(2, 9, 0) = 3"};
        reachOn(ladders, 0, "2 4 6 18");
        reachOn(ladders, 1, "2 4 6 18");
        reachOn(ladders, 3, "2 4 6 18");
        reachOn(ladders, 7, "2 4 6 18");
    }

    private static void widowed() {
        Check.sentence("3 WIDOWED (below DEWY): as DEWY, but 3 at most, if it is LONG by 4 or more.");
        String[] ladders = {"ladder(3, 2, 0) = 0", "ladder(3, 3, 0) = 1", "ladder(3, 4, 0) = 2", "ladder(3, 9, 0) = 3"};
        reachOn(ladders, 0, "2 2 2 2");
        reachOn(ladders, 1, "2 3 3 3");
        reachOn(ladders, 2, "2 3 3 3");
        reachOn(ladders, 3, "2 2 2 2");
        reachOn(ladders, 7, "2 3 3 3");
        Rows.run("", "ladder(3, 1, 0) = 0", "at(0, 4) = 1", "days(1) = 0", "at(0, 4) = 1");
    }

    private static void lent() {
        Check.sentence("4 LENT (below TIED): as TIED, but on DAYS that are a multiple of 7 (0, too) not at all (0).");
        String[] ladders = {"ladder(4, 1, 0) = 0", "ladder(4, 2, 0) = 1", "ladder(4, 3, 0) = 2", "ladder(4, 9, 0) = 3"};
        reachOn(ladders, 0, "0 0 0 0");
        reachOn(ladders, 1, "2 4 6 18");
        reachOn(ladders, 3, "2 4 6 18");
        reachOn(ladders, 6, "2 4 6 18");
        reachOn(ladders, 7, "0 0 0 0");
        reachOn(ladders, 8, "2 4 6 18");
        reachOn(ladders, 14, "0 0 0 0");
        reachOn(ladders, 21, "0 0 0 0");
        reachOn(ladders, 35, "0 0 0 0");
    }

    private static void reachOn(String[] ladders, int day, String due) {
        OrchardLadders x = new OrchardLadders();
        for (String row : ladders) {
            Rows.answer(x, row.substring(0, row.indexOf(" = ")));
        }
        if (day > 0) {
            x.days(day);
        }
        Check.same("on day " + day + " reach", x.at(0, 4) + " " + x.at(1, 4) + " " + x.at(2, 4) + " " + x.at(3, 4), due);
    }

    private static void of() {
        Check.sentence("Of a TREE: 0 HIGH, 1 FRUIT, 2 from which DAY RIPE");
        Rows.run("7:8@9", "of(0, -1) = -1", "of(0, 0) = 7", "of(0, 1) = 8", "of(0, 2) = 9", "of(0, 3) = 0", "of(0, 4) = 0",
            "of(0, 5) = -1", "of(0, MIN) = -1", "of(0, MAX) = -1");
        Rows.run("7:8@9", "of(-1, 0) = -1", "of(1, 0) = -1", "of(MIN, 0) = -1", "of(MAX, 0) = -1");
        Rows.run(SIX, "of(-1, 0) = -1", "of(0, 0) = 1", "of(5, 0) = 6", "of(6, 0) = -1");
        Check.sentence("Sets are bits.");
        Rows.run("1:1@0;p10=0,p10,p10,p10", "of(0, 3) = 1", "lean(0, -4) = 0", "lean(1, 0) = -4", "of(0, 3) = 2", "lean(1, -4) = 0",
            "lean(2, 0) = -4", "of(0, 3) = 4", "lean(2, -4) = 0", "lean(3, 0) = -4", "of(0, 3) = 8", "of(0, 4) = 8", "reached(0, 0) = 15");
        Rows.run("9:1@0,9:1@0,9:1@0,9:1@0,9:1@0,1:1@0;p10", "at(0, 5) = 32");
        Check.sentence("3 LADDERS that lean there (a set)");
        Rows.run("9:1@0,1:1@0;p10=0,p10=1,p10=0,p10=0", "of(0, 3) = 13", "of(1, 3) = 2");
        Rows.run("9:1@0;p10=0,p10=0,p10=0,p10=0", "of(0, 3) = 15");
        Rows.run("9:1@0;p10,p10,p10,p10", "of(0, 3) = 0");
        Check.sentence("4 those of them that REACH it on this DAY (a set)");
        Rows.run("5:1@99,5:1@0;p40=0,p50=0,p60=0,p90=1", "of(0, 4) = 6", "of(1, 4) = 8");
        Rows.run("5:1@0;p50=0,d50=0,t30=0,l30=0", "of(0, 4) = 5", "days(1) = 1", "of(0, 4) = 15", "of(0, 3) = 15");
    }

    private static void at() {
        Check.sentence("Of a LADDER: 0 KIND, 1 LONG, 2 PRICE, 3 the TREE where it leans (NONE)");
        Rows.run("1:1@0;t46=0,p11", "at(0, -1) = -1", "at(0, 0) = 2", "at(0, 1) = 4", "at(0, 2) = 6", "at(0, 3) = 0",
            "at(1, 3) = -4", "at(0, 4) = 8", "at(0, 5) = 1", "at(0, 6) = -1", "at(0, MIN) = -1", "at(0, MAX) = -1");
        Rows.run("1:1@0;p11", "at(-1, 0) = -1", "at(0, 1) = 1", "at(1, 0) = -1", "at(MIN, 0) = -1", "at(MAX, 0) = -1");
        Rows.run("1:1@0;p10,p20,p30,p40", "at(-1, 1) = -1", "at(0, 1) = 1", "at(3, 1) = 4", "at(4, 1) = -1");
        Rows.run(SIX + ";p10=5,p10=0", "at(0, 3) = 5", "at(1, 3) = 0");
        Check.sentence("4 how far it REACHES on this DAY");
        Rows.run("1:1@0;d30,l30", "at(0, 4) = 2", "at(1, 4) = 0", "days(1) = 0", "at(0, 4) = 3", "at(1, 4) = 6", "undo() = 0", "at(0, 4) = 2",
            "at(1, 4) = 0");
        Check.sentence("5 TREES that it REACHES on this DAY (a set)");
        Rows.run(SIX + ";p10,p20,p60,l90", "at(0, 5) = 1", "at(1, 5) = 3", "at(2, 5) = 63", "at(3, 5) = 0", "days(1) = 0",
            "at(3, 5) = 63");
        Rows.run("", "ladder(0, 9, 0) = 0", "at(0, 5) = 0");
    }

    private static void count() {
        Check.sentence("0 TREES, 1 LADDERS, 2 the DAY, 3 GOT, 4 PAID, 5 LOST, 6 FRUIT of all, 7 BASKET, 8 WASPS, 9 what may be UNDONE. BAD.");
        Rows.run("", "count(-1) = -1", "count(10) = -1", "count(MIN) = -1", "count(MAX) = -1");
        Rows.run("5:9@0,5:8@0;p53=0,p51,p50", "days(1) = 5", "count(0) = 2", "count(1) = 3", "count(2) = 1", "count(3) = 5",
            "count(4) = 3", "count(5) = 2", "count(6) = 10", "count(7) = 5", "count(8) = 1", "count(9) = 1");
        Rows.run("1:99@9,1:99@9,1:99@9,1:99@9,1:99@9,1:99@9", "count(6) = 594");
        Rows.run("1:0@9,1:0@9", "count(6) = 0");
    }
}
