/** Promises 16 to 24: what is foretold, planned, and how likely it is. */
public final class ForetoldTest {
    public static void main(String[] args) {
        ahead();
        fruit();
        reached();
        gathered();
        plan();
        round();
        longer();
        larger();
        luck();
        Check.end();
    }

    private static void ahead() {
        OrchardLadders x = Check.read("4:40@0,6:50@3;d42=0,t33=1,p24=0");
        x.days(1);
        int[][] wrong = {{-1, 0}, {61, 0}, {0, -1}, {0, 3}, {Integer.MIN_VALUE, 0}, {0, Integer.MAX_VALUE}};
        for (int[] w : wrong) {
            Check.due("ahead(" + w[0] + ", " + w[1] + ")", x.ahead(w[0], w[1]), -1);
        }
        int[][] told = new int[61][5];
        for (int n = 0; n <= 60; n++) {
            for (int what = 0; what < 3; what++) {
                told[n][what] = x.ahead(n, what);
            }
            told[n][3] = x.fruit(0, n);
            told[n][4] = x.fruit(1, n);
        }
        Check.due("nothing is changed", x.count(2), 1);
        Check.due("nothing may be undone but the day", x.count(9), 1);
        for (int n = 0; n <= 60; n++) {
            for (int what = 0; what < 3; what++) {
                Check.due("ahead(" + n + ", " + what + ")", told[n][what], x.count(3 + what));
            }
            Check.due("fruit(0, " + n + ")", told[n][3], x.of(0, 1));
            Check.due("fruit(1, " + n + ")", told[n][4], x.of(1, 1));
            x.days(1);
        }
        OrchardLadders gusty = Check.read("4:99@50");
        gusty.seed(0);
        Check.due("no draws are foretold", gusty.ahead(40, 2), 0);
    }

    private static void fruit() {
        OrchardLadders x = Check.read("4:40@0;p40=0");
        Check.due("fruit(0, 0)", x.fruit(0, 0), 40);
        Check.due("fruit(0, 6)", x.fruit(0, 6), 4);
        Check.due("fruit(0, 60)", x.fruit(0, 60), 0);
        int[][] wrong = {{1, 0}, {-1, 0}, {0, -1}, {0, 61}};
        for (int[] w : wrong) {
            Check.due("fruit(" + w[0] + ", " + w[1] + ")", x.fruit(w[0], w[1]), -1);
        }
    }

    private static void reached() {
        OrchardLadders x = Check.read("4:40@90;p40=0,d50,w90,l21");
        Check.due("reached(0, 0)", x.reached(0, 0), 1);
        Check.due("reached(0, 1)", x.reached(0, 1), 11);
        Check.due("reached(0, 3)", x.reached(0, 3), 9);
        Check.due("reached(0, 7)", x.reached(0, 7), 3);
        Check.due("reached(0, 60)", x.reached(0, 60), 9);
        x.days(4);
        Check.due("on day 4: reached(0, 3)", x.reached(0, 3), 3);
        int[][] wrong = {{1, 0}, {-1, 0}, {0, -1}, {0, 61}};
        for (int[] w : wrong) {
            Check.due("reached(" + w[0] + ", " + w[1] + ")", x.reached(w[0], w[1]), -1);
        }
    }

    private static void gathered() {
        Check.due("no trees", new OrchardLadders().gathered(), 0);
        Check.due("no fruit", Check.read("4:0@9").gathered(), 0);
        Check.due("wasps alone", Check.read("4:9@9").gathered(), 18);
        Check.due("within 60 days", Check.read("4:60@0").gathered(), 60);
        Check.due("within 61 days", Check.read("4:61@0").gathered(), -4);
        OrchardLadders x = Check.read("4:11@2,4:5@0;p40=0");
        Check.due("the later one counts", x.gathered(), 5);
        x.days(3);
        Check.due("from now on", x.gathered(), 2);
        x.rule(1, 0);
        x.lean(0, -4);
        Check.due("nobody", x.gathered(), -4);
        Check.due("nothing is changed", x.count(2), 3);
    }

    private static void plan() {
        OrchardLadders x = new OrchardLadders();
        Check.due("no trees, no ladders", x.plan(1, -4), -4);
        Check.due("n is bad", x.plan(0, -4), -1);
        x.ladder(0, 4, 0);
        Check.due("no trees", x.plan(1, 0), -4);
        Check.due("no trees", x.plan(14, -4), -4);
        x.tree(5, 9, 0);
        Check.due("too high: the first tree", x.plan(3, 0), 0);
        Check.due("too high: nothing", x.plan(3, -4), 0);
        x.tree(4, 9, 1);
        x.tree(4, 9, 0);
        Check.due("plan(1, -4)", x.plan(1, -4), 5);
        Check.due("plan(1, 0): it is ripe", x.plan(1, 0), 2);
        Check.due("plan(3, -4)", x.plan(3, -4), 8);
        Check.due("plan(3, 0): of like ones the first", x.plan(3, 0), 1);
        x.ladder(2, 3, 0);
        Check.due("two ladders, plan(1, -4)", x.plan(1, -4), 10);
        Check.due("plan(1, 0)", x.plan(1, 0), 2);
        Check.due("plan(1, 1)", x.plan(1, 1), 0);
        Check.due("at(0, 3) is as it was", x.at(0, 3), -4);
        int[][] wrong = {{0, 0}, {15, 0}, {-1, 0}, {1, 2}, {1, -1}, {1, -3}, {1, -5}, {Integer.MAX_VALUE, -4}};
        for (int[] w : wrong) {
            Check.due("plan(" + w[0] + ", " + w[1] + ")", x.plan(w[0], w[1]), -1);
        }
        OrchardLadders full = Check.read("1:9@0,1:9@0,1:9@0,1:9@0,1:9@0,1:9@0;p10,p10,p10,p10");
        Check.due("like ones: how much", full.plan(1, -4), 20);
        full.rule(0, 9);
        for (int l = 0; l < 4; l++) {
            Check.due("one basket a tree: plan(1, " + l + ")", full.plan(1, l), l);
        }
        full.rule(0, 4);
        Check.due("smaller baskets: how much", full.plan(1, -4), 16);
        int[] pairs = {0, 0, 1, 1};
        for (int l = 0; l < 4; l++) {
            Check.due("two baskets a tree: plan(1, " + l + ")", full.plan(1, l), pairs[l]);
        }
    }

    private static void round() {
        OrchardLadders x = new OrchardLadders();
        Check.due("no ladder", x.round(0, 1, -1), -1);
        x.ladder(0, 4, 0);
        Check.due("no trees", x.round(0, 1, -1), -4);
        Check.due("no trees, k too large", x.round(0, 1, 9), -4);
        Check.due("no trees, n is bad", x.round(0, 5, -1), -1);
        x.tree(4, 5, 0);
        x.tree(4, 7, 2);
        x.tree(4, 9, 0);
        int[][] wrong = {{1, 1, 0}, {-1, 1, 0}, {0, 0, 0}, {0, 5, 0}, {0, 1, -2}, {0, 1, Integer.MIN_VALUE}, {0, 5, 9}};
        for (int[] w : wrong) {
            Check.due("round(" + w[0] + ", " + w[1] + ", " + w[2] + ")", x.round(w[0], w[1], w[2]), -1);
        }
        Check.due("round(0, 1, -1)", x.round(0, 1, -1), 5);
        Check.due("round(0, 1, 0)", x.round(0, 1, 0), 0);
        Check.due("round(0, 1, 1)", x.round(0, 1, 1), -4);
        Check.due("round(0, 4, MAX)", x.round(0, 4, Integer.MAX_VALUE), -4);
        Check.due("round(0, 2, -1)", x.round(0, 2, -1), 10);
        Check.due("round(0, 2, 0)", x.round(0, 2, 0), 0);
        Check.due("round(0, 2, 1)", x.round(0, 2, 1), 2);
        Check.due("round(0, 4, -1)", x.round(0, 4, -1), 17);
        Check.due("round(0, 3, -1)", x.round(0, 3, -1), 15);
        int[] three = {0, 2, 1};
        int[] four = {0, 2, 2, 1};
        for (int k = 0; k < 3; k++) {
            Check.due("round(0, 3, " + k + ")", x.round(0, 3, k), three[k]);
        }
        for (int k = 0; k < 4; k++) {
            Check.due("round(0, 4, " + k + ")", x.round(0, 4, k), four[k]);
        }
        x.ladder(0, 4, 0);
        x.lean(1, 0);
        x.lean(0, 0);
        Check.due("with another: round(0, 1, -1)", x.round(0, 1, -1), 10);
        Check.due("with another: round(0, 1, 0)", x.round(0, 1, 0), 2);
        Check.due("at(0, 3) is as it was", x.at(0, 3), 0);
        x.lean(1, 2);
        Check.due("another takes from the same: round(0, 2, -1)", x.round(0, 2, -1), 13);
        Check.due("another takes from the same: round(0, 2, 0)", x.round(0, 2, 0), 0);
        Check.due("another takes from the same: round(0, 2, 1)", x.round(0, 2, 1), 0);
    }

    private static void longer() {
        OrchardLadders x = Check.read("4:1@0,9:1@0,18:1@0,20:1@0;p40,d40,t40,l40");
        int[][] day0 = {{0, 5, -4, -4}, {-4, -4, -4, -4}, {0, 1, 5, -4}, {-4, -4, -4, -4}};
        int[][] day1 = {{0, 5, -4, -4}, {0, 5, -4, -4}, {0, 1, 5, -4}, {0, 1, 5, -4}};
        for (int l = 0; l < 4; l++) {
            for (int t = 0; t < 4; t++) {
                Check.due("longer(" + l + ", " + t + ")", x.longer(l, t), day0[l][t]);
            }
        }
        x.days(1);
        for (int l = 0; l < 4; l++) {
            for (int t = 0; t < 4; t++) {
                Check.due("on day 1, longer(" + l + ", " + t + ")", x.longer(l, t), day1[l][t]);
            }
        }
        Check.due("longer(4, 0)", x.longer(4, 0), -1);
        Check.due("longer(-1, 0)", x.longer(-1, 0), -1);
        Check.due("longer(0, 4)", x.longer(0, 4), -1);
        Check.due("longer(0, -1)", x.longer(0, -1), -1);
        OrchardLadders w = Check.read("3:1@0,2:1@0,4:1@0;w10");
        Check.due("widowed on day 0 to 2", w.longer(0, 1), 1);
        Check.due("widowed on day 0 to 3", w.longer(0, 0), -4);
        w.days(1);
        Check.due("widowed on day 1 to 3", w.longer(0, 0), 2);
        Check.due("widowed on day 1 to 4", w.longer(0, 2), -4);
    }

    private static void larger() {
        OrchardLadders x = Check.read("4:40@0,4:20@1;p40=0,p40=1");
        int[][] wrong = {{0, 1}, {61, 1}, {1, 0}, {1, 1000}, {-1, 1}, {1, -1}, {Integer.MAX_VALUE, 1}};
        for (int[] w : wrong) {
            Check.due("larger(" + w[0] + ", " + w[1] + ")", x.larger(w[0], w[1]), -1);
        }
        Check.due("larger(1, 1)", x.larger(1, 1), 1);
        Check.due("larger(1, 7)", x.larger(1, 7), 7);
        Check.due("larger(1, 30)", x.larger(1, 30), 30);
        Check.due("larger(1, 31)", x.larger(1, 31), -4);
        Check.due("larger(2, 30)", x.larger(2, 30), 10);
        Check.due("larger(2, 31)", x.larger(2, 31), 11);
        Check.due("larger(60, 60)", x.larger(60, 60), -4);
        Check.due("larger(60, 59)", x.larger(60, 59), 20);
        Check.due("larger(60, 999)", x.larger(60, 999), -4);
        Check.due("BASKET is as it was", x.count(7), 5);
        x.days(2);
        Check.due("what was got ahead of now is not in them", x.larger(1, 15), 8);
    }

    private static void luck() {
        int[][] wrong = {{-1, 0, 0}, {151, 0, 0}, {0, -1, 0}, {0, 11, 0}, {0, 0, -1}, {0, 0, 2}};
        OrchardLadders x = Check.read("4:40@0,4:7@0,4:9@1;p40=0,p40=1,p40=1,p40=2");
        for (int[] w : wrong) {
            Check.due("luck(" + w[0] + ", " + w[1] + ", " + w[2] + ")", x.luck(w[0], w[1], w[2]), -1);
        }
        fraction(x, 0, 5, 1, 1);
        fraction(x, 1, 5, 7, 8);
        fraction(x, 5, 5, 7, 8);
        fraction(x, 6, 5, 1, 2);
        fraction(x, 7, 5, 1, 2);
        fraction(x, 8, 5, 3, 8);
        fraction(x, 10, 5, 3, 8);
        fraction(x, 12, 5, 1, 8);
        fraction(x, 13, 5, 0, 1);
        fraction(x, 150, 5, 0, 1);
        fraction(x, 12, 0, 1, 1);
        fraction(x, 1, 10, 0, 1);
        fraction(x, 0, 10, 1, 1);
        fraction(x, 12, 3, 343, 1000);
        fraction(x, 1, 1, 999, 1000);
        fraction(x, 12, 1, 729, 1000);
        x.lean(3, 0);
        fraction(x, 17, 1, 6561, 10000);
        fraction(x, 1, 1, 9999, 10000);
        x.lean(0, -4);
        fraction(x, 12, 1, 729, 1000);
        fraction(new OrchardLadders(), 0, 3, 1, 1);
        fraction(new OrchardLadders(), 1, 3, 0, 1);
        Check.due("nothing is changed", x.count(2), 0);
    }

    private static void fraction(OrchardLadders x, int g, int c, int above, int below) {
        Check.due("luck(" + g + ", " + c + ", 0)", x.luck(g, c, 0), above);
        Check.due("luck(" + g + ", " + c + ", 1)", x.luck(g, c, 1), below);
    }
}
