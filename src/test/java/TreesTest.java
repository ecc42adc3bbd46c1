/** Promises 1 to 6 and 9: a new object, trees, ladders, what they are, the rules, the counts. */
public final class TreesTest {
    private static final int[] FAR = {Integer.MIN_VALUE, -5, -1, 6, 99, Integer.MAX_VALUE};

    public static void main(String[] args) {
        aNewObject();
        trees();
        ladders();
        reachOfKinds();
        treeAndLadderTogether();
        rules();
        counts();
        Check.end();
    }

    private static void aNewObject() {
        OrchardLadders x = new OrchardLadders();
        int[] due = {0, 0, 0, 0, 0, 0, 0, 5, 1, 0};
        for (int what = 0; what < due.length; what++) {
            Check.due("new: count(" + what + ")", x.count(what), due[what]);
        }
        Check.due("new: of(0, 0)", x.of(0, 0), -1);
        Check.due("new: at(0, 0)", x.at(0, 0), -1);
        Check.due("new: undo()", x.undo(), -4);
        Check.due("new: restore()", x.restore(), -4);
        Check.due("new: seed(0)", x.seed(0), 1);
        Check.due("new: type(32)", x.type(32), 1);
        for (int s = 0; s < 4; s++) {
            Check.due("new: drop(" + s + ")", x.drop(s), -11);
        }
    }

    private static void trees() {
        OrchardLadders x = new OrchardLadders();
        int[][] wrong = {{0, 0, 0}, {21, 0, 0}, {-1, 0, 0}, {1, -1, 0}, {1, 100, 0}, {1, 0, -1}, {1, 0, 100},
            {Integer.MIN_VALUE, 0, 0}, {1, Integer.MAX_VALUE, 0}, {1, 0, Integer.MIN_VALUE}};
        for (int[] w : wrong) {
            Check.due("tree(" + w[0] + ", " + w[1] + ", " + w[2] + ")", x.tree(w[0], w[1], w[2]), -1);
        }
        Check.due("no tree yet", x.count(0), 0);
        int[][] right = {{1, 0, 0}, {20, 99, 99}, {7, 50, 3}, {2, 9, 8}, {3, 10, 11}, {4, 13, 12}};
        for (int t = 0; t < 6; t++) {
            Check.due("tree " + t, x.tree(right[t][0], right[t][1], right[t][2]), t);
            Check.due("trees", x.count(0), t + 1);
        }
        Check.due("a seventh tree", x.tree(1, 1, 1), -3);
        Check.due("a seventh tree that is bad", x.tree(0, 1, 1), -1);
        for (int t = 0; t < 6; t++) {
            for (int what = 0; what < 3; what++) {
                Check.due("of(" + t + ", " + what + ")", x.of(t, what), right[t][what]);
            }
            Check.due("of(" + t + ", 3)", x.of(t, 3), 0);
            Check.due("of(" + t + ", 4)", x.of(t, 4), 0);
            Check.due("of(" + t + ", 5)", x.of(t, 5), -1);
            Check.due("of(" + t + ", -1)", x.of(t, -1), -1);
        }
        for (int t : FAR) {
            Check.due("of(" + t + ", 0)", x.of(t, 0), -1);
        }
    }

    private static void ladders() {
        OrchardLadders x = new OrchardLadders();
        int[][] wrong = {{-1, 1, 0}, {5, 1, 0}, {0, 0, 0}, {0, 10, 0}, {0, 1, -1}, {0, 1, 10},
            {Integer.MAX_VALUE, 1, 0}, {0, Integer.MIN_VALUE, 0}, {0, 1, Integer.MAX_VALUE}};
        for (int[] w : wrong) {
            Check.due("ladder(" + w[0] + ", " + w[1] + ", " + w[2] + ")", x.ladder(w[0], w[1], w[2]), -1);
        }
        Check.due("no ladder yet", x.count(1), 0);
        int[][] right = {{0, 1, 0}, {4, 9, 9}, {2, 3, 4}, {1, 5, 6}};
        for (int l = 0; l < 4; l++) {
            Check.due("ladder " + l, x.ladder(right[l][0], right[l][1], right[l][2]), l);
            Check.due("ladders", x.count(1), l + 1);
        }
        Check.due("a fifth ladder", x.ladder(0, 1, 1), -3);
        Check.due("a fifth ladder that is bad", x.ladder(5, 1, 1), -1);
        for (int l = 0; l < 4; l++) {
            for (int what = 0; what < 3; what++) {
                Check.due("at(" + l + ", " + what + ")", x.at(l, what), right[l][what]);
            }
            Check.due("at(" + l + ", 3)", x.at(l, 3), -4);
            Check.due("at(" + l + ", 5)", x.at(l, 5), 0);
            Check.due("at(" + l + ", 6)", x.at(l, 6), -1);
            Check.due("at(" + l + ", -1)", x.at(l, -1), -1);
        }
        for (int l : FAR) {
            Check.due("at(" + l + ", 0)", x.at(l, 0), -1);
        }
        Check.due("at(4, 0)", x.at(4, 0), -1);
    }

    private static void reachOfKinds() {
        // rows of a kind: days 0 to 7 and 21, then for LONG 1, 2, 3, 4, 9
        int[] days = {0, 1, 2, 3, 4, 5, 6, 7, 21};
        int[] longs = {1, 2, 3, 4, 9};
        String[][] due = {
            {"1 2 3 4 9", "1 2 3 4 9", "1 2 3 4 9", "1 2 3 4 9", "1 2 3 4 9", "1 2 3 4 9", "1 2 3 4 9", "1 2 3 4 9", "1 2 3 4 9"},
            {"1 2 2 2 2", "1 2 3 4 9", "1 2 3 4 9", "1 2 2 2 2", "1 2 3 4 9", "1 2 3 4 9", "1 2 2 2 2", "1 2 3 4 9", "1 2 2 2 2"},
            {"2 4 6 8 18", "2 4 6 8 18", "2 4 6 8 18", "2 4 6 8 18", "2 4 6 8 18", "2 4 6 8 18", "2 4 6 8 18", "2 4 6 8 18", "2 4 6 8 18"},
            {"1 2 2 2 2", "1 2 3 3 3", "1 2 3 3 3", "1 2 2 2 2", "1 2 3 3 3", "1 2 3 3 3", "1 2 2 2 2", "1 2 3 3 3", "1 2 2 2 2"},
            {"0 0 0 0 0", "2 4 6 8 18", "2 4 6 8 18", "2 4 6 8 18", "2 4 6 8 18", "2 4 6 8 18", "2 4 6 8 18", "0 0 0 0 0", "0 0 0 0 0"},
        };
        for (int kind = 0; kind < 5; kind++) {
            for (int d = 0; d < days.length; d++) {
                String[] row = due[kind][d].split(" ");
                for (int i = 0; i < longs.length; i++) {
                    OrchardLadders x = new OrchardLadders();
                    x.ladder(kind, longs[i], 0);
                    if (days[d] > 0) {
                        x.days(days[d]);
                    }
                    Check.due("kind " + kind + " long " + longs[i] + " day " + days[d], x.at(0, 4), Integer.parseInt(row[i]));
                }
            }
        }
    }

    private static void treeAndLadderTogether() {
        OrchardLadders x = Check.read("2:9@5,3:9@0,10:9@0;d50=0,t51=2,p22=1,l50");
        Check.due("of(0, 3)", x.of(0, 3), 1);
        Check.due("of(1, 3)", x.of(1, 3), 4);
        Check.due("of(2, 3)", x.of(2, 3), 2);
        Check.due("of(0, 4) reaches though not ripe", x.of(0, 4), 1);
        Check.due("of(1, 4) too short", x.of(1, 4), 0);
        Check.due("of(2, 4)", x.of(2, 4), 2);
        Check.due("at(0, 5)", x.at(0, 5), 1);
        Check.due("at(1, 5)", x.at(1, 5), 7);
        Check.due("at(2, 5)", x.at(2, 5), 1);
        Check.due("at(3, 5)", x.at(3, 5), 0);
        Check.due("at(3, 3)", x.at(3, 3), -4);
        Check.due("lean(3, 0)", x.lean(3, 0), -4);
        Check.due("of(0, 3) two", x.of(0, 3), 9);
        Check.due("of(0, 4) one", x.of(0, 4), 1);
        Check.due("days(1)", x.days(1), 5);
        Check.due("of(0, 4) both", x.of(0, 4), 9);
        Check.due("at(3, 5) on day 1", x.at(3, 5), 7);
    }

    private static void rules() {
        OrchardLadders x = Check.read("2:9@0;p20=0");
        Check.due("rule(0, 30)", x.rule(0, 30), 5);
        Check.due("rule(0, 1)", x.rule(0, 1), 30);
        Check.due("rule(0, 0)", x.rule(0, 0), -1);
        Check.due("rule(0, 31)", x.rule(0, 31), -1);
        Check.due("rule(1, 9)", x.rule(1, 9), 1);
        Check.due("rule(1, 0)", x.rule(1, 0), 9);
        Check.due("rule(1, -1)", x.rule(1, -1), -1);
        Check.due("rule(1, 10)", x.rule(1, 10), -1);
        Check.due("rule(2, 1)", x.rule(2, 1), -1);
        Check.due("rule(-1, 1)", x.rule(-1, 1), -1);
        Check.due("count(7)", x.count(7), 1);
        Check.due("count(8)", x.count(8), 0);
        Check.due("days(1)", x.days(1), 1);
        Check.due("no wasps", x.count(5), 0);
        Check.due("rule(0, 3)", x.rule(0, 3), 1);
        Check.due("rule(1, 2)", x.rule(1, 2), 0);
        Check.due("days(1)", x.days(1), 3);
        Check.due("two wasps", x.count(5), 2);
    }

    private static void counts() {
        OrchardLadders x = Check.read("2:9@0,9:30@1,4:7@0;p22=0,p13=1,p94");
        x.days(2);
        x.lean(2, 1);
        int[] due = {3, 3, 2, 8, 10, 4, 34, 5, 1, 3};
        for (int what = 0; what < due.length; what++) {
            Check.due("count(" + what + ")", x.count(what), due[what]);
        }
        Check.due("count(10)", x.count(10), -1);
        Check.due("count(-1)", x.count(-1), -1);
        Check.due("count(MIN)", x.count(Integer.MIN_VALUE), -1);
    }
}
