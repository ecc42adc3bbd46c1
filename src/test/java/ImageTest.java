/** Promises 25 and 26: an image, and what is restored from it. */
public final class ImageTest {
    public static void main(String[] args) {
        OrchardLadders x = Check.read("4:40@0,4:7@1;p42=0,d53=1");
        Check.due("restore()", x.restore(), -4);
        x.days(3);
        x.rule(0, 6);
        x.rule(1, 2);
        x.seed(1234);
        x.type(53);
        x.sheet(0, 2, 5);
        int[] before = counts(x);
        Check.due("image()", x.image(), 1);
        Check.due("nothing is changed", x.count(9), 3);
        for (int again = 0; again < 2; again++) {
            x.tree(9, 9, 9);
            x.ladder(4, 9, 9);
            x.lean(0, 2);
            x.drift(5);
            x.rule(0, 1);
            x.rule(1, 9);
            x.type(54);
            x.sheet(0, 3, 7 + again);
            Check.due("restore()", x.restore(), 1);
            int[] behind = counts(x);
            for (int what = 0; what < before.length; what++) {
                Check.due("restored " + what, behind[what], before[what]);
            }
            Check.due("the sheet is no part of it", x.drop(0), 7 + again);
        }
        Check.due("the tape is no part of it", x.type(53), 4);
        undoneBehindRestore(x);
        laterImage(x);
        Check.end();
    }

    private static int[] counts(OrchardLadders x) {
        int draw = x.seed(0);
        x.seed(draw);
        return new int[] {x.count(0), x.count(1), x.count(2), x.count(3), x.count(4), x.count(5), x.count(6), x.count(7),
            x.count(8), x.count(9), draw, x.at(0, 3), x.at(1, 3), x.of(0, 3), x.of(1, 3), x.of(0, 1), x.of(1, 1), x.of(1, 0),
            x.at(1, 0), x.at(1, 1), x.at(1, 2), x.of(1, 2), x.of(2, 0), x.at(2, 0)};
    }

    private static void undoneBehindRestore(OrchardLadders x) {
        Check.due("undo()", x.undo(), 2);
        Check.due("DAY", x.count(2), 2);
        Check.due("THE DRAW", x.seed(8), 1);
        Check.due("undo()", x.undo(), 1);
        Check.due("undo()", x.undo(), 0);
        Check.due("FRUIT", x.of(0, 1), 40);
        Check.due("undo()", x.undo(), -4);
        Check.due("restore() is no part of what was undone", x.restore(), 1);
        Check.due("count(9)", x.count(9), 3);
    }

    private static void laterImage(OrchardLadders x) {
        x.days(7);
        Check.due("image()", x.image(), 1);
        x.days(1);
        Check.due("restore()", x.restore(), 1);
        Check.due("the later one", x.count(2), 10);
        Check.due("the later one's past", x.count(9), 8);
        for (int more = 7; more >= 0; more--) {
            Check.due("undo()", x.undo(), more);
            Check.due("DAY", x.count(2), 2 + more);
        }
    }
}
