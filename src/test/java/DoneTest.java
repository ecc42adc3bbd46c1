/** Promises 10 to 15: days, leaning, shaking, drifting, undoing, the draw. */
public final class DoneTest {
    public static void main(String[] args) {
        days();
        theLastDay();
        lean();
        shake();
        drift();
        undo();
        undoForgets();
        undoDespiteWhatWasTold();
        seed();
        Check.end();
    }

    private static void days() {
        OrchardLadders x = Check.read("4:30@0,4:7@1;p42=0,p43=1,p34=0,d45=0");
        int[] wrong = {0, 41, -1, Integer.MIN_VALUE, Integer.MAX_VALUE};
        for (int n : wrong) {
            Check.due("days(" + n + ")", x.days(n), -1);
        }
        Check.due("nothing happened", x.count(2), 0);
        Check.due("day 0", x.days(1), 5);
        state(x, 1, 5, 14, 1, 24, 7);
        Check.due("days 1 and 2", x.days(2), 26);
        state(x, 3, 31, 42, 4, 2, 0);
        Check.due("count(9)", x.count(9), 3);
        Check.due("days(40)", x.days(40), 2);
        state(x, 43, 33, 602, 4, 0, 0);
        Check.due("count(9)", x.count(9), 8);
    }

    private static void state(OrchardLadders x, int day, int got, int paid, int lost, int fruit0, int fruit1) {
        Check.due("DAY", x.count(2), day);
        Check.due("GOT", x.count(3), got);
        Check.due("PAID", x.count(4), paid);
        Check.due("LOST", x.count(5), lost);
        Check.due("FRUIT of 0", x.of(0, 1), fruit0);
        Check.due("FRUIT of 1", x.of(1, 1), fruit1);
    }

    private static void theLastDay() {
        OrchardLadders x = new OrchardLadders();
        for (int i = 0; i < 249; i++) {
            x.days(40);
        }
        Check.due("day 9960", x.count(2), 9960);
        Check.due("days(40) to 10000", x.days(40), -3);
        Check.due("drift(40) to 10000", x.drift(40), -3);
        Check.due("days(41)", x.days(41), -1);
        Check.due("drift(41)", x.drift(41), -1);
        Check.due("the draw is as it was", x.seed(1), 1);
        Check.due("days(38)", x.days(38), 0);
        Check.due("drift(2) to 10000", x.drift(2), -3);
        Check.due("days(1) to 9999", x.days(1), 0);
        Check.due("undo()", x.undo(), 7);
        Check.due("drift(1) to 9999", x.drift(1), 0);
        Check.due("day 9999", x.count(2), 9999);
        Check.due("days(1)", x.days(1), -3);
        Check.due("drift(1)", x.drift(1), -3);
        x.tree(1, 99, 99);
        x.ladder(0, 1, 1);
        x.lean(0, 0);
        Check.due("it is still foretold", x.ahead(60, 0), 83);
        Check.due("undo()", x.undo(), 0);
    }

    private static void lean() {
        OrchardLadders x = Check.read("4:30@0,4:7@1;p42=0,p43");
        int[][] wrong = {{2, 0}, {-1, 0}, {0, 2}, {0, -1}, {0, -3}, {0, -5}, {2, -4}, {Integer.MAX_VALUE, 0}, {0, Integer.MIN_VALUE}};
        for (int[] w : wrong) {
            Check.due("lean(" + w[0] + ", " + w[1] + ")", x.lean(w[0], w[1]), -1);
        }
        Check.due("lean(0, 0)", x.lean(0, 0), -2);
        Check.due("lean(1, NONE)", x.lean(1, -4), -2);
        Check.due("nothing to be undone", x.count(9), 0);
        Check.due("lean(0, 1)", x.lean(0, 1), 0);
        Check.due("lean(1, 1)", x.lean(1, 1), -4);
        Check.due("of(1, 3)", x.of(1, 3), 3);
        Check.due("lean(0, NONE)", x.lean(0, -4), 1);
        Check.due("at(0, 3)", x.at(0, 3), -4);
        Check.due("of(1, 3)", x.of(1, 3), 2);
        Check.due("count(9)", x.count(9), 3);
        Check.due("a ladder that leans nowhere costs nothing", x.days(1), 0);
        Check.due("PAID", x.count(4), 3);
    }

    private static void shake() {
        OrchardLadders x = Check.read("4:30@50,4:7@1,1:1@1,1:0@0");
        Check.due("shake(4)", x.shake(4), -1);
        Check.due("shake(-1)", x.shake(-1), -1);
        Check.due("shake(3)", x.shake(3), -2);
        Check.due("count(9)", x.count(9), 0);
        Check.due("shake(0), not ripe", x.shake(0), 15);
        Check.due("shake(1)", x.shake(1), 3);
        Check.due("of(1, 1)", x.of(1, 1), 4);
        Check.due("shake(2) of one", x.shake(2), 0);
        Check.due("of(2, 1)", x.of(2, 1), 1);
        Check.due("LOST", x.count(5), 18);
        Check.due("count(9)", x.count(9), 3);
        Check.due("DAY", x.count(2), 0);
    }

    private static void drift() {
        int[] wrong = {0, 41, -1, Integer.MAX_VALUE};
        OrchardLadders x = Check.read("4:99@0,4:98@99,1:97@99;p40=0");
        for (int n : wrong) {
            Check.due("drift(" + n + ")", x.drift(n), -1);
        }
        Check.due("the draw is as it was", x.seed(1), 1);
        long draw = 1;
        int[] fruit = {99, 98, 97};
        int shaken = 0;
        for (int d = 0; d < 30; d++) {
            draw = (draw * 1103515245L + 12345L) % 2147483648L;
            int lost = 0;
            if (draw / 65536 % 4 == 0) {
                int t = (int) (draw / 65536 % 3);
                lost = fruit[t] / 2;
                fruit[t] -= lost;
                shaken++;
            }
            fruit[0] -= Math.min(fruit[0], 5);
            int stung = Math.min(fruit[0], 1);
            fruit[0] -= stung;
            Check.due("drift(1) on day " + d, x.drift(1), lost + stung);
            for (int t = 0; t < 3; t++) {
                Check.due("FRUIT of " + t, x.of(t, 1), fruit[t]);
            }
        }
        Check.holds("gusts came, and did not come", shaken > 2 && shaken < 28);
        Check.due("THE DRAW", x.seed(1), draw);
        OrchardLadders y = Check.read("4:99@0,4:98@99,1:97@99;p40=0");
        Check.due("drift(30) at once", y.drift(30), x.count(5));
        Check.due("GOT", y.count(3), x.count(3));
        Check.due("THE DRAW", y.seed(0), draw);
        Check.due("count(9)", y.count(9), 8);
        OrchardLadders none = new OrchardLadders();
        Check.due("drift without trees", none.drift(40), 0);
        Check.holds("the draw went on", none.seed(1) != 1);
    }

    private static void undo() {
        OrchardLadders x = Check.read("4:30@0,4:7@1;p42=0,p43=1");
        Check.due("undo()", x.undo(), -4);
        x.days(2);
        x.lean(1, 0);
        x.shake(0);
        x.seed(9);
        x.drift(2);
        Check.due("count(9)", x.count(9), 6);
        Check.due("the second day of the drift", x.undo(), 5);
        Check.due("DAY", x.count(2), 3);
        Check.due("the first day of the drift", x.undo(), 4);
        Check.due("THE DRAW", x.seed(9), 9);
        Check.due("FRUIT", x.of(0, 1), 9);
        Check.due("LOST", x.count(5), 12);
        Check.due("the shaking", x.undo(), 3);
        Check.due("FRUIT", x.of(0, 1), 18);
        Check.due("LOST", x.count(5), 3);
        Check.due("THE DRAW from ahead of it", x.seed(4), 1);
        Check.due("the leaning", x.undo(), 2);
        Check.due("at(1, 3)", x.at(1, 3), 1);
        Check.due("a day", x.undo(), 1);
        Check.due("GOT", x.count(3), 5);
        Check.due("PAID", x.count(4), 5);
        Check.due("a day", x.undo(), 0);
        state(x, 0, 0, 0, 0, 30, 7);
        Check.due("THE DRAW", x.seed(4), 1);
        Check.due("undo()", x.undo(), -4);
    }

    private static void undoForgets() {
        OrchardLadders x = Check.read("4:90@0;p42=0");
        x.days(12);
        Check.due("count(9)", x.count(9), 8);
        for (int more = 7; more >= 0; more--) {
            Check.due("undo()", x.undo(), more);
            Check.due("DAY", x.count(2), 4 + more);
            Check.due("FRUIT", x.of(0, 1), 90 - 6 * (4 + more));
        }
        Check.due("undo()", x.undo(), -4);
        Check.due("DAY", x.count(2), 4);
        x.days(1);
        Check.due("count(9)", x.count(9), 1);
        Check.due("tree()", x.tree(0, 0, 0), -1);
        Check.due("count(9) behind what was refused", x.count(9), 1);
        Check.due("tree()", x.tree(1, 0, 0), 1);
        Check.due("count(9) behind a new tree", x.count(9), 0);
        x.days(1);
        Check.due("ladder()", x.ladder(0, 0, 0), -1);
        Check.due("count(9) behind what was refused", x.count(9), 1);
        Check.due("ladder()", x.ladder(0, 1, 0), 1);
        Check.due("count(9) behind a new ladder", x.count(9), 0);
        Check.due("undo()", x.undo(), -4);
    }

    private static void undoDespiteWhatWasTold() {
        OrchardLadders x = Check.read("4:90@0;p42=0");
        x.seed(5);
        x.days(1);
        x.rule(0, 9);
        x.rule(1, 2);
        x.seed(6);
        Check.due("undo()", x.undo(), 0);
        Check.due("BASKET stays", x.count(7), 9);
        Check.due("WASPS stay", x.count(8), 2);
        Check.due("THE DRAW", x.seed(1), 5);
    }

    private static void seed() {
        OrchardLadders x = new OrchardLadders();
        Check.due("seed(-1)", x.seed(-1), -1);
        Check.due("seed(MIN)", x.seed(Integer.MIN_VALUE), -1);
        Check.due("seed(0)", x.seed(0), 1);
        Check.due("seed(MAX)", x.seed(Integer.MAX_VALUE), 0);
        x.drift(1);
        Check.due("31 bits", x.seed(0), (Integer.MAX_VALUE * 1103515245L + 12345L) % 2147483648L);
    }
}
