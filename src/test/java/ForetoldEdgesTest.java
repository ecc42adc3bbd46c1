/** Part 2 of the document's Terms and promises 16 to 24, edge by edge: each sentence that names one has rows of its own. */
public final class ForetoldEdgesTest {
    public static void main(String[] args) {
        daysOn();
        ahead();
        fruit();
        reached();
        fewerThanBefore();
        gathered();
        planNumbers();
        plan();
        planOfLikeOnes();
        roundNumbers();
        round();
        planBehindRound();
        longer();
        larger();
        luckNumbers();
        luck();
        Check.end();
    }

    private static void daysOn() {
        Check.sentence("n DAYS on (0 .. 60)");
        Rows.run("5:99@0;p51=0", "ahead(-1, 0) = -1", "ahead(0, 0) = 0", "ahead(60, 0) = 83", "ahead(61, 0) = -1", "ahead(MIN, 0) = -1",
            "ahead(MAX, 0) = -1");
        Rows.run("5:99@0", "fruit(0, -1) = -1", "fruit(0, 0) = 99", "fruit(0, 60) = 39", "fruit(0, 61) = -1", "fruit(0, MIN) = -1",
            "fruit(0, MAX) = -1");
        Rows.run("5:99@0;p50", "reached(0, -1) = -1", "reached(0, 0) = 1", "reached(0, 60) = 1", "reached(0, 61) = -1",
            "reached(0, MIN) = -1", "reached(0, MAX) = -1");
    }

    private static void ahead() {
        Check.sentence("n DAYS on: 0 GOT, 1 PAID, 2 LOST. BAD.");
        Rows.run("5:99@0;p53=0", "ahead(2, -1) = -1", "ahead(2, 0) = 10", "ahead(2, 1) = 6", "ahead(2, 2) = 2", "ahead(2, 3) = -1",
            "ahead(2, MIN) = -1", "ahead(2, MAX) = -1");
        Rows.run("5:99@0;p53=0", "days(3) = 15", "ahead(0, 0) = 15", "ahead(0, 1) = 9", "ahead(0, 2) = 3", "ahead(1, 0) = 20",
            "ahead(1, 1) = 12", "ahead(1, 2) = 4");
        Rows.run("5:9@0;p59=0,p59=0,p59=0,p59=0", "ahead(60, 1) = 2160");
        Rows.run("", "ahead(60, 0) = 0", "ahead(60, 1) = 0", "ahead(60, 2) = 0");
        Rows.run("5:99@1;p50=0", "ahead(1, 0) = 0", "ahead(1, 2) = 0", "ahead(2, 0) = 5", "ahead(2, 2) = 1");
    }

    private static void fruit() {
        Check.sentence("FRUIT of a TREE n DAYS on. BAD.");
        Rows.run("5:99@0,5:8@0;p50=0", "fruit(-1, 0) = -1", "fruit(0, 1) = 93", "fruit(1, 1) = 7", "fruit(2, 0) = -1",
            "fruit(MIN, 0) = -1", "fruit(MAX, 0) = -1");
        Rows.run("1:1@9,1:1@9,1:1@9,1:1@9,1:1@9,1:7@9", "fruit(5, 9) = 7", "fruit(5, 10) = 6", "fruit(6, 0) = -1");
        Rows.run("5:3@0", "fruit(0, 2) = 1", "fruit(0, 3) = 0", "fruit(0, 4) = 0");
    }

    private static void reached() {
        Check.sentence("REACHED: which LADDERS REACH a TREE on the DAY that is n DAYS on (a set; wherever they lean)");
        Rows.run("5:9@99,5:9@0;p50=0,p40=0,p60=1,p90", "reached(0, 0) = 13", "reached(1, 0) = 13");
        Rows.run("5:9@0;p50,p50,p50,p50", "reached(0, 0) = 15");
        Rows.run("5:9@0;p40,p40,p40,p40", "reached(0, 0) = 0");
        Check.sentence("REACHED. BAD.");
        Rows.run("5:9@0", "reached(0, 0) = 0", "reached(-1, 0) = -1", "reached(1, 0) = -1", "reached(MIN, 0) = -1", "reached(MAX, 0) = -1");
        Rows.run("1:1@9,1:1@9,1:1@9,1:1@9,1:1@9,1:7@9;p10", "reached(5, 0) = 1", "reached(6, 0) = -1");
        Rows.run("3:9@0;d30,l20", "reached(0, 0) = 0", "reached(0, 1) = 3", "reached(0, 2) = 3", "reached(0, 3) = 2", "reached(0, 7) = 1",
            "reached(0, 21) = 0", "days(2) = 0", "reached(0, 0) = 3", "reached(0, 1) = 2", "reached(0, 5) = 1", "reached(0, 60) = 3");
    }

    private static void fewerThanBefore() {
        Check.sentence("in place of all TREES, LADDERS");
        Rows.run("5:9@0,5:9@0,5:9@0;p90=0,p90=1,p90=2,p90=2", "text 5:8@0;p50 = 1", "reached(0, 0) = 1", "of(0, 3) = 0", "gathered() = 8",
            "luck(1, 5, 0) = 0", "plan(1, -4) = 5", "round(0, 1, -1) = 5", "larger(60, 1) = -4", "ahead(60, 2) = 8", "count(6) = 8", "at(0, 5) = 1");
        Rows.run("5:8@0;p50", "image() = 1", "text 5:9@0,5:9@0,5:9@0;p90=0,p90=1,p90=2,p90=2 = 3", "restore() = 1", "reached(0, 0) = 1",
            "of(0, 3) = 0", "gathered() = 8", "luck(1, 5, 0) = 0", "plan(1, -4) = 5", "larger(60, 1) = -4", "ahead(60, 2) = 8", "at(0, 5) = 1");
    }

    private static void gathered() {
        Check.sentence("GATHERED: the first of 0 to 60 DAYS behind which no TREE has FRUIT; none.");
        Rows.run("", "gathered() = 0");
        Rows.run("5:0@0,5:0@99", "gathered() = 0");
        Rows.run("5:1@0", "gathered() = 1");
        Rows.run("5:59@0", "gathered() = 59");
        Rows.run("5:60@0", "gathered() = 60");
        Check.sentence("GATHERED; NONE.");
        Rows.run("5:61@0", "gathered() = -4", "days(1) = 0", "gathered() = 60");
        Rows.run("5:1@59", "gathered() = 60");
        Rows.run("5:1@60", "gathered() = -4");
        Rows.run("5:1@0", "rule(1, 0) = 1", "gathered() = -4");
        Rows.run("5:6@0,5:3@0;p50=0", "gathered() = 3");
        Rows.run("5:7@0,5:1@0;p50=0", "gathered() = 2");
        Rows.run("5:6@0;p50=0", "days(1) = 5", "gathered() = 0");
    }

    private static void planNumbers() {
        Check.sentence("PLAN for n DAYS (1 .. 14)");
        Rows.run("5:99@0;p50", "plan(0, -4) = -1", "plan(1, -4) = 5", "plan(14, -4) = 70", "plan(15, -4) = -1", "plan(-1, -4) = -1",
            "plan(MIN, -4) = -1", "plan(MAX, -4) = -1");
        Rows.run("5:99@0;p50", "plan(0, 0) = -1", "plan(1, 0) = 0", "plan(14, 0) = 0", "plan(15, 0) = -1");
        Check.sentence("PLAN: how much (ladder NONE), at which TREE one leans; NONE. BAD.");
        Rows.run("5:9@0;p50", "plan(1, -1) = -1", "plan(1, 1) = -1", "plan(1, -2) = -1", "plan(1, -3) = -1", "plan(1, -5) = -1",
            "plan(1, MIN) = -1", "plan(1, MAX) = -1", "plan(1, -4) = 5", "plan(1, 0) = 0");
        Rows.run("5:9@0;p50,p50,p50,p50", "plan(1, 3) = 0", "plan(1, 4) = -1");
        Check.sentence("none: there are no TREES, no LADDERS");
        Rows.run("", "plan(1, -4) = -4", "plan(14, -4) = -4");
        Rows.run("5:9@0", "plan(1, -4) = -4");
        Rows.run("", "ladder(0, 9, 0) = 0", "plan(1, -4) = -4", "plan(1, 0) = -4");
        Rows.run("", "plan(0, -4) = -1", "plan(15, -4) = -1", "plan(1, 0) = -1");
    }

    private static void plan() {
        Check.sentence("at which TREES all LADDERS should lean, from now on (several may at one; each at some TREE), so that most is GOT in them");
        Rows.run("5:20@0,5:0@0;p50,p50,p50,p50", "plan(1, -4) = 20", "plan(1, 0) = 0", "plan(1, 1) = 0", "plan(1, 2) = 0", "plan(1, 3) = 0");
        Rows.run("5:0@0,5:20@0;p50,p50,p50,p50", "plan(1, -4) = 20", "plan(1, 0) = 1", "plan(1, 1) = 1", "plan(1, 2) = 1", "plan(1, 3) = 1");
        Rows.run("9:9@0,9:9@0;p50,p50=1", "plan(1, -4) = 0", "plan(1, 0) = 0", "plan(1, 1) = 0");
        Rows.run("5:9@99;p50", "plan(14, -4) = 0", "plan(14, 0) = 0");
        Rows.run("5:9@14,9:9@0;p50", "plan(14, -4) = 0", "days(1) = 0", "plan(14, -4) = 5");
        Rows.run("1:1@9,1:1@9,1:1@9,1:1@9,1:1@9,1:7@0;p10", "plan(1, -4) = 5", "plan(1, 0) = 5");
        Rows.run("5:30@0,5:9@0;p50=0", "days(2) = 10", "plan(1, -4) = 5", "plan(4, -4) = 15", "plan(4, 0) = 0");
        Rows.run("5:5@0,3:4@0;p50=1,p30=0", "plan(1, -4) = 9", "plan(1, 0) = 0", "plan(1, 1) = 1", "at(0, 3) = 1", "at(1, 3) = 0");
        Rows.run("3:9@0,2:4@0;d30", "plan(1, -4) = 4", "plan(1, 0) = 1", "plan(3, -4) = 7", "plan(3, 0) = 0", "days(1) = 0", "plan(1, -4) = 5",
            "plan(1, 0) = 0");
        Rows.run("5:99@0;p50,p50,p50,p50", "rule(0, 30) = 5", "plan(1, -4) = 99", "rule(0, 1) = 30", "plan(1, -4) = 4");
    }

    private static void planOfLikeOnes() {
        Check.sentence("of like ones the first (LADDER 0's TREE, then LADDER 1's, rising)");
        Rows.run("5:5@0,5:5@0;p50,p50", "plan(1, -4) = 10", "plan(1, 0) = 0", "plan(1, 1) = 1");
        Rows.run("5:5@0,5:5@0,5:5@0;p50,p50", "plan(1, -4) = 10", "plan(1, 0) = 0", "plan(1, 1) = 1");
        Rows.run("5:5@0,5:5@0;p50=1", "plan(1, 0) = 0");
        Rows.run("9:5@0,5:5@0,5:5@0;p50", "plan(1, 0) = 1");
        Rows.run("9:5@0,5:5@0,5:5@0;p50,p40", "plan(1, 0) = 1", "plan(1, 1) = 0");
        Rows.run("5:5@0,5:5@0,5:5@0,5:5@0,5:5@0,5:5@0;p50,p50,p50,p50", "plan(1, -4) = 20", "plan(1, 0) = 0", "plan(1, 1) = 1",
            "plan(1, 2) = 2", "plan(1, 3) = 3");
        Rows.run("5:10@0,5:10@0;p50,p50,p50,p50", "plan(1, -4) = 20", "plan(1, 0) = 0", "plan(1, 1) = 0", "plan(1, 2) = 1", "plan(1, 3) = 1");
    }

    private static void roundNumbers() {
        Check.sentence("ROUND of a LADDER for n DAYS (1 .. 4)");
        Rows.run("5:99@0;p50", "round(0, 0, -1) = -1", "round(0, 1, -1) = 5", "round(0, 4, -1) = 20", "round(0, 5, -1) = -1",
            "round(0, -1, -1) = -1", "round(0, MIN, -1) = -1", "round(0, MAX, -1) = -1");
        Rows.run("5:9@0;p50", "round(-1, 1, 0) = -1", "round(0, 1, 0) = 0", "round(1, 1, 0) = -1", "round(-4, 1, 0) = -1",
            "round(MIN, 1, 0) = -1", "round(MAX, 1, 0) = -1");
        Rows.run("5:9@0;p50,p50,p50,p50", "round(3, 1, 0) = 0", "round(4, 1, 0) = -1");
        Check.sentence("ROUND: how much (k -1), the TREE on the k-th DAY (NONE: not so many)");
        Rows.run("5:9@0;p50", "round(0, 1, 0) = 0", "round(0, 1, 1) = -4", "round(0, 1, MAX) = -4");
        Rows.run("5:9@0;p50", "round(0, 4, 0) = 0", "round(0, 4, 3) = 0", "round(0, 4, 4) = -4", "round(0, 4, MAX) = -4");
        Check.sentence("BAD: k below -1, too.");
        Rows.run("5:9@0;p50", "round(0, 1, -1) = 5", "round(0, 1, -2) = -1", "round(0, 1, -4) = -1", "round(0, 1, MIN) = -1");
    }

    private static void round() {
        Check.sentence("at which TREE it should lean on each of them (all others as they are) so that most is GOT in them by all");
        Rows.run("5:5@0,5:5@1;p50", "round(0, 2, -1) = 10", "round(0, 2, 0) = 0", "round(0, 2, 1) = 1", "at(0, 3) = -4");
        Rows.run("5:5@1,5:5@0;p50", "round(0, 2, -1) = 10", "round(0, 2, 0) = 1", "round(0, 2, 1) = 0");
        Rows.run("9:5@0,9:5@0;p50=1", "round(0, 4, -1) = 0", "round(0, 4, 0) = 0", "round(0, 4, 3) = 0");
        Rows.run("5:5@0,5:5@0;p50,p50=0", "round(0, 1, -1) = 10", "round(0, 1, 0) = 1", "round(1, 1, -1) = 5", "round(1, 1, 0) = 0");
        Rows.run("5:5@0,5:4@0;p50=0,p50=0", "round(0, 1, -1) = 9", "round(0, 1, 0) = 1");
        Rows.run("5:9@0,5:9@0;p50,p50", "round(0, 1, -1) = 5");
        Rows.run("5:30@0,5:9@0;p50=0", "days(2) = 10", "round(0, 1, -1) = 5", "round(0, 1, 0) = 0", "at(0, 3) = 0");
        Rows.run("3:9@0,2:4@0;d30", "round(0, 2, -1) = 9", "round(0, 2, 0) = 1", "round(0, 2, 1) = 0");
        Rows.run("1:1@9,1:1@9,1:1@9,1:1@9,1:1@9,1:9@3;p10", "round(0, 4, -1) = 5", "round(0, 4, 0) = 0", "round(0, 4, 2) = 0", "round(0, 4, 3) = 5",
            "round(0, 3, -1) = 0");
        Check.sentence("of like ones the first (rising): how much; the TREE on the k-th DAY (0 on)");
        Rows.run("5:5@0,5:5@0;p50", "rule(1, 0) = 1", "round(0, 2, -1) = 10", "round(0, 2, 0) = 0", "round(0, 2, 1) = 1");
        Rows.run("9:5@0,5:10@0;p50", "rule(1, 0) = 1", "round(0, 3, -1) = 10", "round(0, 3, 0) = 0", "round(0, 3, 1) = 1", "round(0, 3, 2) = 1");
        Check.sentence("none: there are no TREES.");
        Rows.run("", "ladder(0, 9, 0) = 0", "round(0, 1, -1) = -4", "round(0, 1, 0) = -4", "round(0, 4, 3) = -4", "round(0, 0, -1) = -1",
            "round(0, 5, -1) = -1", "round(0, 1, -2) = -1", "round(1, 1, -1) = -1");
        Rows.run("", "round(0, 1, -1) = -1");
    }

    private static void planBehindRound() {
        Check.sentence("FORETOLD from now (nothing is changed)");
        Rows.run("5:20@0,5:9@0,5:7@0;p50,p50=0", "plan(1, -4) = 10", "round(0, 1, -1) = 10", "plan(1, -4) = 10", "plan(1, 0) = 0", "plan(1, 1) = 0",
            "lean(1, 2) = 0", "round(0, 4, -1) = 26", "plan(1, -4) = 10", "plan(1, 0) = 0", "plan(1, 1) = 0", "round(0, 1, -1) = 10");
        Rows.run("5:20@0,5:9@0,5:7@0;p50,p50=2", "round(0, 1, -1) = 10", "text 5:3@0,5:4@0;p50 = 2", "round(0, 1, -1) = 4", "round(0, 1, 0) = 1",
            "plan(1, -4) = 4", "plan(1, 0) = 1");
    }

    private static void longer() {
        Check.sentence("the least by which a LADDER would have to be LONGER (0 to as many as make it 9) to REACH a TREE on this DAY; none.");
        Rows.run("5:9@0,6:9@0,9:9@0,10:9@0;p50", "longer(0, 0) = 0", "longer(0, 1) = 1", "longer(0, 2) = 4", "longer(0, 3) = -4");
        Rows.run("1:9@0,9:9@0,10:9@0;p10,p90", "longer(0, 0) = 0", "longer(0, 1) = 8", "longer(0, 2) = -4", "longer(1, 1) = 0",
            "longer(1, 2) = -4");
        Rows.run("5:9@0,6:9@0,7:9@0,18:9@0,19:9@0,20:9@0;t30", "longer(0, 0) = 0", "longer(0, 1) = 0", "longer(0, 2) = 1", "longer(0, 3) = 6",
            "longer(0, 4) = -4", "longer(0, 5) = -4");
        Rows.run("2:9@0,3:9@0;d10", "longer(0, 0) = 1", "longer(0, 1) = -4", "days(1) = 0", "longer(0, 1) = 2", "days(2) = 0",
            "longer(0, 1) = -4");
        Rows.run("2:9@0,3:9@0,4:9@0;w10", "longer(0, 0) = 1", "longer(0, 1) = -4", "days(1) = 0", "longer(0, 1) = 2", "longer(0, 2) = -4");
        Rows.run("1:9@0,18:9@0;l10", "longer(0, 0) = -4", "days(1) = 0", "longer(0, 0) = 0", "longer(0, 1) = 8", "days(6) = 0",
            "longer(0, 0) = -4");
        Rows.run("4:9@0,1:9@0;p50,t90", "longer(0, 0) = 0", "longer(0, 1) = 0", "longer(1, 0) = 0", "longer(1, 1) = 0");
        Rows.run("9:9@99;p50", "longer(0, 0) = 4", "at(0, 1) = 5", "at(0, 3) = -4");
        Check.sentence("LONGER; NONE. BAD.");
        Rows.run("5:9@0;p50", "longer(-1, 0) = -1", "longer(1, 0) = -1", "longer(0, -1) = -1", "longer(0, 1) = -1", "longer(0, -4) = -1",
            "longer(MIN, 0) = -1", "longer(MAX, 0) = -1", "longer(0, MIN) = -1", "longer(0, MAX) = -1", "longer(0, 0) = 0");
        Rows.run("1:1@9,1:1@9,1:1@9,1:1@9,1:1@9,9:1@9;p50,p50,p50,p50", "longer(3, 5) = 4", "longer(4, 5) = -1", "longer(3, 6) = -1");
    }

    private static void larger() {
        Check.sentence("LARGER for n DAYS (1 .. 60)");
        Rows.run("5:99@0;p50=0", "larger(0, 1) = -1", "larger(1, 1) = 1", "larger(60, 1) = 1", "larger(61, 1) = -1", "larger(-1, 1) = -1",
            "larger(MIN, 1) = -1", "larger(MAX, 1) = -1");
        Check.sentence("by which as much as g (1 .. 999) is GOT in them, or more; none");
        Rows.run("5:99@0;p50=0", "larger(1, 0) = -1", "larger(1, 1) = 1", "larger(60, 999) = -4", "larger(60, 1000) = -1", "larger(1, -1) = -1",
            "larger(1, MIN) = -1", "larger(1, MAX) = -1");
        Check.sentence("the least BASKET (1 .. 30)");
        Rows.run("5:99@0;p50=0", "larger(1, 1) = 1", "larger(1, 2) = 2", "larger(1, 29) = 29", "larger(1, 30) = 30", "larger(1, 31) = -4",
            "count(7) = 5");
        Rows.run("5:99@0;p50=0", "larger(2, 10) = 5", "larger(2, 11) = 6", "larger(60, 50) = 1", "larger(60, 49) = 1", "larger(60, 51) = 2");
        Rows.run("5:99@0", "larger(60, 1) = -4");
        Rows.run("", "larger(60, 1) = -4");
        Rows.run("5:99@0;p50", "larger(60, 1) = -4");
        Rows.run("5:99@0;p50=0", "rule(0, 30) = 5", "days(2) = 60", "larger(1, 30) = 30", "larger(1, 31) = -4", "larger(2, 36) = 18",
            "larger(2, 37) = -4", "count(7) = 30");
        Rows.run("5:99@0,5:99@0,5:99@0,5:99@0,5:99@0,5:99@0;p50=0,p50=1,p50=2,p50=3", "rule(1, 0) = 1", "larger(60, 396) = 2",
            "larger(60, 397) = -4", "larger(4, 396) = 25", "larger(4, 395) = 25", "larger(4, 384) = 24");
    }

    private static void luckNumbers() {
        Check.sentence("how likely g (0 .. 150) or more is GOT on it: a fraction in lowest terms");
        Rows.run("5:99@0;p50=0", "luck(-1, 5, 0) = -1", "luck(0, 5, 0) = 1", "luck(0, 5, 1) = 1", "luck(150, 5, 0) = 0", "luck(150, 5, 1) = 1",
            "luck(151, 5, 0) = -1", "luck(MIN, 5, 0) = -1", "luck(MAX, 5, 0) = -1");
        Check.sentence("LUCK by c of 10 (0 .. 10)");
        Rows.run("5:99@0;p50=0", "luck(5, -1, 0) = -1", "luck(5, 0, 0) = 1", "luck(5, 0, 1) = 1", "luck(5, 10, 0) = 0", "luck(5, 10, 1) = 1",
            "luck(5, 11, 0) = -1", "luck(5, MIN, 0) = -1", "luck(5, MAX, 0) = -1");
        Check.sentence("LUCK: above (what 0), below (1). BAD.");
        Rows.run("5:99@0;p50=0", "luck(5, 3, -1) = -1", "luck(5, 3, 0) = 7", "luck(5, 3, 1) = 10", "luck(5, 3, 2) = -1", "luck(5, 3, MIN) = -1",
            "luck(5, 3, MAX) = -1");
    }

    private static void luck() {
        Check.sentence("each LADDER that leans at a TREE is away on this DAY by c of 10, apart (it takes nothing)");
        Rows.run("", "luck(0, 3, 0) = 1", "luck(0, 3, 1) = 1", "luck(1, 3, 0) = 0", "luck(1, 3, 1) = 1");
        fractions("5:99@0;p50=0", 5, "1/1 9/10 4/5 7/10 3/5 1/2 2/5 3/10 1/5 1/10 0/1");
        fractions("5:99@0;p50=0", 6, "0/1 0/1 0/1 0/1 0/1 0/1 0/1 0/1 0/1 0/1 0/1");
        fractions("5:99@0;p50=0", 0, "1/1 1/1 1/1 1/1 1/1 1/1 1/1 1/1 1/1 1/1 1/1");
        fractions("5:99@0;p50=0,p50=0,p50=0,p50=0", 20, "1/1 6561/10000 256/625 2401/10000 81/625 1/16 16/625 81/10000 1/625 1/10000 0/1");
        fractions("5:99@0;p50=0,p50=0,p50=0,p50=0", 1, "1/1 9999/10000 624/625 9919/10000 609/625 15/16 544/625 7599/10000 369/625 3439/10000 0/1");
        fractions("5:99@0;p50=0,p50", 5, "1/1 9/10 4/5 7/10 3/5 1/2 2/5 3/10 1/5 1/10 0/1");
        fractions("5:99@0;p50=0,p40=0", 5, "1/1 9/10 4/5 7/10 3/5 1/2 2/5 3/10 1/5 1/10 0/1");
        fractions("5:7@0;p50=0,p50=0", 7, "1/1 81/100 16/25 49/100 9/25 1/4 4/25 9/100 1/25 1/100 0/1");
        fractions("5:5@0;p50=0,p50=0", 5, "1/1 99/100 24/25 91/100 21/25 3/4 16/25 51/100 9/25 19/100 0/1");
        fractions("5:5@1;p50=0", 1, "0/1 0/1 0/1 0/1 0/1 0/1 0/1 0/1 0/1 0/1 0/1");
        Rows.run("5:99@0;p50=0,p50=0,p50=0,p50=0", "rule(0, 30) = 5", "luck(99, 0, 0) = 1", "luck(100, 0, 0) = 0", "luck(90, 5, 0) = 5",
            "luck(90, 5, 1) = 16", "luck(91, 5, 0) = 1", "luck(91, 5, 1) = 16");
        Rows.run("5:99@0;p50=0", "days(3) = 15", "luck(5, 5, 0) = 1", "luck(5, 5, 1) = 2", "luck(6, 5, 0) = 0", "count(2) = 3", "count(3) = 15");
        Rows.run("1:1@0,1:2@0,1:3@0,1:4@0,1:5@0,1:6@0;p10=5,p10=4", "luck(10, 5, 0) = 1", "luck(10, 5, 1) = 4", "luck(11, 5, 0) = 0");
        Rows.run("3:9@0;d30=0", "luck(1, 5, 0) = 0", "days(1) = 0", "luck(1, 5, 0) = 1", "luck(1, 5, 1) = 2");
    }

    /** The odds of g or more for c from 0 to 10. */
    private static void fractions(String text, int g, String due) {
        OrchardLadders x = Check.read(text);
        StringBuilder odds = new StringBuilder();
        for (int c = 0; c <= 10; c++) {
            odds.append(c == 0 ? "" : " ").append(x.luck(g, c, 0)).append('/').append(x.luck(g, c, 1));
        }
        Check.same("\"" + text + "\" luck of " + g, odds.toString(), due);
    }
}
