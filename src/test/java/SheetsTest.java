/** Promises 27 to 32: sheets, and what is told on them. */
public final class SheetsTest {
    private static final int MIN = Integer.MIN_VALUE, MAX = Integer.MAX_VALUE;

    public static void main(String[] args) {
        sheetAndDrop();
        item();
        copy();
        film();
        left();
        Check.end();
    }

    private static void sheetAndDrop() {
        OrchardLadders x = new OrchardLadders();
        int[][] wrong = {{-1, 0, 1}, {4, 0, 1}, {0, -1, 1}, {0, 4, 1}, {0, 0, 25}, {0, 0, MAX}, {4, 0, -1}, {0, 4, -1}, {MIN, MIN, MIN}};
        for (int[] w : wrong) {
            Check.due("sheet(" + w[0] + ", " + w[1] + ", " + w[2] + ")", x.sheet(w[0], w[1], w[2]), -1);
        }
        Check.due("sheet(0, 0, -1)", x.sheet(0, 0, -1), -14);
        Check.due("sheet(3, 3, MIN)", x.sheet(3, 3, MIN), -14);
        Check.due("drop(0)", x.drop(0), -11);
        Check.due("drop(-1)", x.drop(-1), -1);
        Check.due("drop(4)", x.drop(4), -1);
        Check.due("sheet(0, 0, 0)", x.sheet(0, 0, 0), 0);
        Check.due("sheet(3, 3, 24)", x.sheet(3, 3, 24), 24);
        Check.due("sheet(3, 3, -1)", x.sheet(3, 3, -1), -14);
        Check.due("sheet(3, 3, 25)", x.sheet(3, 3, 25), -1);
        Check.due("drop(0) of a row without items", x.drop(0), 0);
        Check.due("drop(0)", x.drop(0), -11);
        Check.due("drop(3)", x.drop(3), 24);
        Check.due("drop(3)", x.drop(3), -11);
        Check.due("sheet(1, 0, 3)", x.sheet(1, 0, 3), 3);
        Check.due("sheet(1, 2, 5)", x.sheet(1, 2, 5), 5);
        Check.due("item(1, 0, 0, 1)", x.item(1, 0, 0, 1), -12);
        Check.due("item(1, 2, 4, 1)", x.item(1, 2, 4, 1), 1);
        Check.due("drop(1)", x.drop(1), 5);
    }

    private static void item() {
        OrchardLadders x = Check.read("9:50@99");
        Check.due("item(0, 0, 0, 1)", x.item(0, 0, 0, 1), -11);
        for (int lane = 0; lane < 4; lane++) {
            x.sheet(lane, lane, 3);
        }
        int[][] wrong = {{-1, 0, 0, -1}, {4, 0, 0, -1}, {0, -1, 0, -1}, {0, 4, 9, -1}, {0, 1, 9, -12}, {3, 2, 0, -12},
            {0, 0, -1, -13}, {0, 0, 3, -13}, {0, 0, MAX, -13}, {0, 0, MIN, -13}};
        for (int[] w : wrong) {
            Check.due("item(" + w[0] + ", " + w[1] + ", " + w[2] + ", 1)", x.item(w[0], w[1], w[2], 1L), w[3]);
        }
        long[] kept = {50L + (1L << 8), 50L + (1L << 16), 50L - (1L << 32), 50L};
        long[] other = {50L + (1L << 7), 50L + (1L << 15), 50L + (1L << 31), 50L + (1L << 32)};
        for (int lane = 0; lane < 4; lane++) {
            Check.due("item of lane " + lane, x.item(lane, lane, 2, kept[lane]), 1);
            Check.due("its lowest bits are 50", x.left(0, lane, lane, 2, 1), 32);
            Check.due("item of lane " + lane, x.item(lane, lane, 2, other[lane]), 1);
            Check.due("its lowest bits are not 50", x.left(0, lane, lane, 2, 1), 0);
            Check.due("another item is still 0", x.left(0, lane, lane, 1, 1), 0);
        }
        x.item(3, 3, 0, 50);
        x.sheet(3, 3, 3);
        Check.due("a new row is of 0", x.left(0, 3, 3, 0, 1), 0);
        OrchardLadders none = Check.read("9:0@99");
        none.sheet(0, 0, 1);
        Check.due("a new row is of 0", none.left(0, 0, 0, 0, 1), 32);
        none.item(0, 0, 0, 256);
        Check.due("256 is 0 as a byte", none.left(0, 0, 0, 0, 1), 32);
    }

    /** The items of a sheet as they show through the fruit of an unripe tree. */
    private static String show(OrchardLadders x, int sheet, int lane, int n) {
        StringBuilder shown = new StringBuilder();
        for (int i = 0; i < n; i++) {
            int item = -1;
            for (int t = 0; t < x.count(0); t++) {
                if (x.left(t, sheet, lane, i, 1) == 32) {
                    item = x.of(t, 1);
                }
            }
            shown.append(item);
        }
        return shown.toString();
    }

    private static OrchardLadders sixItems() {
        OrchardLadders x = Check.read("9:0@99,9:1@99,9:2@99,9:3@99,9:4@99,9:5@99");
        x.sheet(0, 1, 6);
        for (int i = 0; i < 6; i++) {
            x.item(0, 1, i, i);
        }
        x.sheet(1, 1, 4);
        x.sheet(2, 2, 4);
        return x;
    }

    private static void copy() {
        OrchardLadders x = sixItems();
        int[][] wrong = {{-1, 0, 0, 0, 1, -1}, {0, 0, 4, 0, 1, -1}, {4, 9, 3, 9, 9, -1}, {0, 0, 3, 0, 1, -11}, {3, 0, 0, 0, 1, -11},
            {3, 9, 3, 9, 9, -11}, {0, 0, 2, 0, 1, -12}, {2, 9, 0, 9, 9, -12}, {0, 6, 1, 0, 1, -13}, {0, 0, 1, 4, 1, -13},
            {0, -1, 1, 0, 1, -13}, {0, 0, 1, -1, 1, -13}, {0, 0, 1, 0, -1, -13}, {0, 0, 1, 0, 5, -13}, {0, 3, 1, 0, 4, -13},
            {0, 7, 1, 0, 0, -13}, {0, 0, 1, 5, 0, -13}, {0, 1, 1, 1, MAX, -13}, {0, MAX, 1, 0, 1, -13}, {0, 0, 1, MIN, MIN, -13}};
        for (int[] w : wrong) {
            Check.due("copy(" + w[0] + ", " + w[1] + ", " + w[2] + ", " + w[3] + ", " + w[4] + ")",
                x.copy(w[0], w[1], w[2], w[3], w[4]), w[5]);
        }
        shows(x, 0, 6, "012345");
        shows(x, 1, 4, "0000");
        Check.due("copy of nothing at the ends", x.copy(0, 6, 1, 4, 0), 0);
        Check.due("copy(0, 3, 1, 1, 3)", x.copy(0, 3, 1, 1, 3), 3);
        shows(x, 1, 4, "0345");
        shows(x, 0, 6, "012345");
        Check.due("copy onto itself, on", x.copy(0, 0, 0, 1, 5), 5);
        shows(x, 0, 6, "001234");
        Check.due("copy onto itself, back", x.copy(0, 2, 0, 0, 4), 4);
        shows(x, 0, 6, "123434");
    }

    private static void shows(OrchardLadders x, int sheet, int n, String due) {
        String shown = show(x, sheet, 1, n);
        Check.holds("sheet " + sheet + " shows " + shown + ", due is " + due, shown.equals(due));
    }

    private static void film() {
        OrchardLadders x = Check.read("9:30@1,9:12@0;p90=0,p90=0");
        x.sheet(0, 0, 24);
        x.sheet(1, 3, 2);
        int[][] wrong = {{2, 1, 0, 0, 0, -1}, {-1, 1, 0, 0, 0, -1}, {0, 0, 0, 0, 0, -1}, {0, 25, 0, 0, 0, -1}, {0, 1, 4, 0, 0, -1},
            {0, 1, -1, 0, 0, -1}, {0, 1, 0, 4, 0, -1}, {0, 1, 0, -1, 0, -1}, {0, 25, 2, 1, 0, -1}, {0, 1, 2, 0, 99, -11},
            {0, 1, 0, 1, 99, -12}, {0, 24, 0, 0, 1, -13}, {0, 1, 0, 0, 24, -13}, {0, 1, 0, 0, -1, -13}, {0, 3, 1, 3, 0, -13},
            {0, 1, 0, 0, MAX, -13}, {0, 1, 0, 0, MIN, -13}};
        for (int[] w : wrong) {
            Check.due("film(" + w[0] + ", " + w[1] + ", " + w[2] + ", " + w[3] + ", " + w[4] + ")",
                x.film(w[0], w[1], w[2], w[3], w[4]), w[5]);
        }
        Check.due("film(0, 24, 0, 0, 0)", x.film(0, 24, 0, 0, 0), 24);
        Check.due("film(1, 2, 1, 3, 0)", x.film(1, 2, 1, 3, 0), 2);
        Check.due("a tree where none leans", x.left(1, 1, 3, 0, 2), 32);
        Check.due("no one alone would do", x.left(0, 0, 0, 0, 2), 0);
        Check.due("nor would it be otherwise ahead of the first ripe day", x.left(0, 0, 0, 0, 1), 35);
        x.lean(1, -4);
        Check.due("film(0, 8, 0, 0, 16)", x.film(0, 8, 0, 0, 16), 8);
        Check.due("either one alone", x.left(0, 0, 0, 16, 8), 3);
        Check.due("nothing is changed", x.count(2), 0);
        int[] due = {30, 24, 18, 12, 6, 0, 0, 0};
        x.sheet(2, 2, 8);
        for (int i = 0; i < 8; i++) {
            x.item(2, 2, i, due[i]);
        }
        Check.due("as written by hand", x.left(0, 2, 2, 0, 8), 3);
    }

    private static void left() {
        OrchardLadders x = Check.read("3:20@1;p30,d30=0,p20=0,t20");
        x.sheet(0, 1, 12);
        int[][] wrong = {{1, 0, 1, 0, 1, -1}, {-1, 0, 1, 0, 1, -1}, {0, 4, 1, 0, 1, -1}, {0, -1, 1, 0, 1, -1}, {0, 0, 4, 0, 1, -1},
            {0, 0, -1, 0, 1, -1}, {0, 0, 1, 0, 0, -1}, {0, 0, 1, 0, 9, -1}, {0, 0, 1, 0, -1, -1}, {0, 1, 1, 99, 1, -11},
            {0, 1, 1, 0, 9, -1}, {0, 0, 2, 99, 1, -12}, {0, 0, 1, 12, 1, -13}, {0, 0, 1, 5, 8, -13}, {0, 0, 1, -1, 1, -13},
            {0, 0, 1, MAX, 8, -13}, {0, 0, 1, MIN, 1, -13}};
        for (int[] w : wrong) {
            Check.due("left(" + w[0] + ", " + w[1] + ", " + w[2] + ", " + w[3] + ", " + w[4] + ")",
                x.left(w[0], w[1], w[2], w[3], w[4]), w[5]);
        }
        leftBy(x, 47, 20);
        leftBy(x, 36, 20, 19);
        leftBy(x, 11, 20, 14);
        leftBy(x, 11, 20, 14, 8);
        leftBy(x, 9, 20, 14, 8, 2);
        leftBy(x, 2, 20, 14, 8, 7);
        leftBy(x, 2, 20, 14, 8, 7, 1, 0, 0, 0);
        leftBy(x, 9, 20, 14, 8, 2, 0, 0, 0, 0);
        leftBy(x, 0, 20, 14, 8, 2, 0, 0, 0, 1);
        leftBy(x, 36, 20, 19, 18, 17, 16, 15, 14, 13);
        leftBy(x, 0, -1);
        leftBy(x, 0, 20, 13);
        Check.due("at(1, 3) is as it was", x.at(1, 3), 0);
        Check.due("DAY", x.count(2), 0);
        OrchardLadders nobody = Check.read("3:20@0");
        nobody.sheet(0, 1, 12);
        leftBy(nobody, 32, 19, 18);
        leftBy(nobody, 0, 19, 19);
    }

    private static void leftBy(OrchardLadders x, int due, int... items) {
        for (int i = 0; i < items.length; i++) {
            x.item(0, 1, 4 + i, items[i]);
        }
        Check.due("left by " + java.util.Arrays.toString(items), x.left(0, 0, 1, 4, items.length), due);
    }
}
