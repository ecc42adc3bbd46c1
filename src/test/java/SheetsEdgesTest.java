/** LEFT, the sheets, and promises 25 to 32, edge by edge: each sentence that names one has rows of its own. */
public final class SheetsEdgesTest {
    private static final String SIX = "9:0@99,9:1@99,9:2@99,9:3@99,9:4@99,9:5@99";

    public static void main(String[] args) {
        image();
        restore();
        sheet();
        aNewRow();
        drop();
        itemNumbers();
        lowestBits();
        filmNumbers();
        film();
        leftNumbers();
        left();
        noOtherOne();
        copyNumbers();
        copyIndex();
        copyAsIfTakenAhead();
        Check.end();
    }

    private static void image() {
        Check.sentence("All but SHEETS, THE TAPE is kept as an IMAGE: 1.");
        Rows.run("", "image() = 1", "tree(5, 9, 0) = 0", "ladder(0, 5, 0) = 0", "days(3) = 0", "seed(9) = 1", "rule(0, 6) = 5", "rule(1, 6) = 1",
            "restore() = 1", "count(0) = 0", "count(1) = 0", "count(2) = 0", "count(7) = 5", "count(8) = 1", "count(9) = 0", "seed(1) = 1");
        Rows.run("", "sheet(0, 1, 3) = 3", "image() = 1", "sheet(0, 2, 5) = 5", "sheet(1, 2, 6) = 6", "restore() = 1", "drop(0) = 5", "drop(1) = 6",
            "restore() = 1", "drop(0) = -11");
        Rows.run(SIX, "sheet(0, 1, 2) = 2", "item(0, 1, 0, 4) = 1", "image() = 1", "item(0, 1, 0, 5) = 1", "restore() = 1", "left(5, 0, 1, 0, 1) = 32",
            "left(4, 0, 1, 0, 1) = 0");
        Rows.run("", "letters 5:9", "image() = 1", "letters @0", "restore() = 1", "type(49) = 6", "orchard() = 1", "of(0, 2) = 1");
        Rows.run("", "letters 5:9@0", "image() = 1", "orchard() = 1", "restore() = 1", "count(0) = 0", "orchard() = -20");
        Rows.run("5:9@0;p51=0", "days(1) = 5", "image() = 1", "image() = 1", "count(9) = 1", "count(2) = 1");
    }

    private static void restore() {
        Check.sentence("All is as it was then: 1. NONE: there is none.");
        Rows.run("5:9@0", "restore() = -4", "count(0) = 1", "image() = 1", "restore() = 1", "restore() = 1", "count(0) = 1");
        Rows.run("5:20@0,5:9@0;p51=0,d32", "days(2) = 10", "lean(1, 1) = -4", "seed(6) = 1", "rule(0, 4) = 5", "rule(1, 2) = 1", "image() = 1",
            "text 1:1@1 = 1", "rule(0, 9) = 4", "rule(1, 9) = 2", "seed(8) = 6", "restore() = 1", "count(0) = 2", "count(1) = 2", "count(2) = 2",
            "count(3) = 10", "count(4) = 2", "count(5) = 4", "count(6) = 15", "count(7) = 4", "count(8) = 2", "count(9) = 3", "seed(6) = 6",
            "at(0, 3) = 0", "at(1, 3) = 1", "at(1, 0) = 1", "at(1, 1) = 3", "at(1, 2) = 2", "of(1, 0) = 5", "of(0, 1) = 8", "undo() = 2",
            "at(1, 3) = -4", "seed(1) = 1", "undo() = 1", "undo() = 0", "of(0, 1) = 20", "undo() = -4");
        Rows.run("5:99@0;p51=0", "days(9) = 45", "image() = 1", "undo() = 7", "undo() = 6", "days(20) = 48", "restore() = 1", "count(2) = 9",
            "count(9) = 8", "undo() = 7", "count(2) = 8", "undo() = 6", "undo() = 5", "undo() = 4", "undo() = 3", "undo() = 2", "undo() = 1",
            "undo() = 0", "count(2) = 1", "of(0, 1) = 93", "undo() = -4");
        Rows.run("5:9@0", "image() = 1", "days(1) = 0", "image() = 1", "days(1) = 0", "restore() = 1", "count(2) = 1");
        Rows.run("5:9@0;p51=0,p51=0,p51=0,p51=0", "image() = 1", "text 5:9@0 = 1", "restore() = 1", "of(0, 3) = 15", "text 5:9@0 = 1", "of(0, 3) = 0");
        Rows.run("5:9@0", "image() = 1", "ladder(0, 5, 0) = 0", "lean(0, 0) = -4", "restore() = 1", "of(0, 3) = 0", "ladder(0, 5, 0) = 0", "at(0, 3) = -4");
    }

    private static void sheet() {
        Check.sentence("sheets 0 .. 3: nothing (at first), or a row of a LANE: 0 bytes, 1 shorts, 2 ints, 3 longs, of 0 to 24 items.");
        Rows.run("", "sheet(-1, 0, 5) = -1", "sheet(0, 0, 5) = 5", "sheet(3, 0, 5) = 5", "sheet(4, 0, 5) = -1", "sheet(MIN, 0, 5) = -1",
            "sheet(MAX, 0, 5) = -1");
        Rows.run("", "sheet(0, -1, 5) = -1", "drop(0) = -11", "sheet(0, 0, 5) = 5", "drop(0) = 5", "sheet(0, 4, 5) = -1", "drop(0) = -11",
            "sheet(0, 3, 5) = 5", "drop(0) = 5", "sheet(0, MIN, 5) = -1", "sheet(0, MAX, 5) = -1", "drop(0) = -11");
        Check.sentence("A SHEET holds a new row of a LANE: n. BAD: also n above 24; SIZE: n below 0.");
        Rows.run("", "sheet(0, 0, 25) = -1", "sheet(0, 0, MAX) = -1", "drop(0) = -11", "sheet(0, 0, 24) = 24", "item(0, 0, 23, 1) = 1",
            "item(0, 0, 24, 1) = -13", "drop(0) = 24");
        Rows.run("", "sheet(0, 0, -1) = -14", "sheet(0, 0, MIN) = -14", "drop(0) = -11", "sheet(0, 0, 0) = 0", "item(0, 0, 0, 1) = -13", "drop(0) = 0",
            "drop(0) = -11");
        Rows.run("", "sheet(0, 2, 7) = 7", "sheet(0, 0, 25) = -1", "sheet(0, 0, -1) = -14", "sheet(0, 4, 1) = -1", "item(0, 2, 6, 1) = 1", "drop(0) = 7");
        Rows.run("", "sheet(0, 0, 24) = 24", "sheet(1, 1, 24) = 24", "sheet(2, 2, 24) = 24", "sheet(3, 3, 24) = 24", "item(0, 0, 23, 1) = 1",
            "item(1, 1, 23, 1) = 1", "item(2, 2, 23, 1) = 1", "item(3, 3, 23, 1) = 1");
    }

    private static void aNewRow() {
        Check.sentence("A SHEET holds a new row of a LANE: n.");
        for (int lane = 0; lane < 4; lane++) {
            String l = ", " + lane + ", ";
            Rows.run(SIX, "sheet(0" + l + "3) = 3", "item(0" + l + "1, 5) = 1", "left(5, 0" + l + "1, 1) = 32", "sheet(0" + l + "4) = 4",
                "left(0, 0" + l + "0, 1) = 32", "left(0, 0" + l + "1, 1) = 32", "left(0, 0" + l + "3, 1) = 32", "left(0, 0" + l + "4, 1) = -13",
                "item(0" + l + "1, 5) = 1", "drop(0) = 4", "sheet(0" + l + "3) = 3", "left(0, 0" + l + "1, 1) = 32");
        }
        Rows.run(SIX, "sheet(0, 3, 24) = 24", "item(0, 3, 0, 5) = 1", "item(0, 3, 23, 5) = 1", "left(5, 0, 3, 0, 1) = 32", "left(5, 0, 3, 23, 1) = 32",
            "sheet(0, 3, 24) = 24", "left(0, 0, 3, 0, 1) = 32", "left(0, 0, 3, 23, 1) = 32");
        Rows.run("", "sheet(0, 0, 3) = 3", "sheet(0, 1, 5) = 5", "item(0, 0, 0, 1) = -12", "item(0, 1, 4, 1) = 1");
    }

    private static void drop() {
        Check.sentence("A SHEET holds nothing: how many items it had. BAD; NULL.");
        Rows.run("", "drop(-1) = -1", "drop(4) = -1", "drop(MIN) = -1", "drop(MAX) = -1", "drop(0) = -11", "drop(3) = -11");
        Rows.run("", "sheet(3, 0, 0) = 0", "sheet(0, 3, 24) = 24", "drop(3) = 0", "drop(3) = -11", "drop(0) = 24", "drop(0) = -11");
        Rows.run("5:9@0", "sheet(1, 0, 9) = 9", "drop(1) = 9", "item(1, 0, 0, 1) = -11", "film(0, 1, 1, 0, 0) = -11", "left(0, 1, 0, 0, 1) = -11",
            "copy(1, 0, 1, 0, 0) = -11");
    }

    private static void itemNumbers() {
        Check.sentence("Item i of a SHEET, taken as a row of a LANE, becomes v, its lowest bits: 1. BAD; NULL; CAST; INDEX.");
        Rows.run("", "sheet(0, 0, 5) = 5", "sheet(3, 3, 5) = 5", "item(-1, 0, 0, 1) = -1", "item(0, 0, 0, 1) = 1", "item(3, 3, 0, 1) = 1",
            "item(4, 0, 0, 1) = -1", "item(MIN, 0, 0, 1) = -1", "item(MAX, 0, 0, 1) = -1");
        Rows.run("", "sheet(0, 0, 5) = 5", "sheet(3, 3, 5) = 5", "item(0, -1, 0, 1) = -1", "item(3, 4, 0, 1) = -1", "item(0, MIN, 0, 1) = -1",
            "item(0, MAX, 0, 1) = -1");
        Rows.run("", "item(0, 0, 0, 1) = -11", "item(3, 3, -1, 1) = -11", "item(0, 4, 0, 1) = -1", "item(0, -1, 0, 1) = -1");
        Rows.run("", "sheet(0, 0, 5) = 5", "item(0, 1, 0, 1) = -12", "item(0, 2, 0, 1) = -12", "item(0, 3, 0, 1) = -12", "item(0, 3, 9, 1) = -12");
        Rows.run("", "sheet(0, 3, 5) = 5", "item(0, 0, 0, 1) = -12", "item(0, 1, 0, 1) = -12", "item(0, 2, 0, 1) = -12", "item(0, 2, -1, 1) = -12");
        Rows.run("", "sheet(0, 1, 5) = 5", "item(0, 1, -1, 1) = -13", "item(0, 1, 0, 1) = 1", "item(0, 1, 4, 1) = 1", "item(0, 1, 5, 1) = -13",
            "item(0, 1, MIN, 1) = -13", "item(0, 1, MAX, 1) = -13");
        Rows.run("", "sheet(0, 1, 1) = 1", "item(0, 1, 0, 1) = 1", "item(0, 1, 1, 1) = -13", "sheet(0, 1, 24) = 24", "item(0, 1, 23, 1) = 1",
            "item(0, 1, 24, 1) = -13");
    }

    /** Items show by left on unripe trees with 0 to 5 fruit: 32, if the item is just as much. */
    private static void lowestBits() {
        Check.sentence("becomes v, its lowest bits: 1");
        shows(0, "256", 0);
        shows(0, "261", 5);
        shows(0, "-251", 5);
        shows(0, "-1", -1);
        shows(0, "127", -1);
        shows(0, "128", -1);
        shows(0, "133", -1);
        shows(0, "LMIN", 0);
        shows(1, "256", -1);
        shows(1, "65536", 0);
        shows(1, "65541", 5);
        shows(1, "-65531", 5);
        shows(1, "32773", -1);
        shows(1, "LMIN", 0);
        shows(2, "65536", -1);
        shows(2, "4294967296", 0);
        shows(2, "4294967301", 5);
        shows(2, "-4294967291", 5);
        shows(2, "2147483653", -1);
        shows(2, "LMIN", 0);
        shows(3, "4294967296", -1);
        shows(3, "4294967301", -1);
        shows(3, "5", 5);
        shows(3, "0", 0);
        shows(3, "LMIN", -1);
        shows(3, "LMAX", -1);
        byteUpTo99();
    }

    private static void shows(int lane, String v, int due) {
        String[] rows = new String[8];
        rows[0] = "sheet(2, " + lane + ", 3) = 3";
        rows[1] = "item(2, " + lane + ", 1, " + v + ") = 1";
        for (int t = 0; t < 6; t++) {
            rows[2 + t] = "left(" + t + ", 2, " + lane + ", 1, 1) = " + (t == due ? 32 : 0);
        }
        Rows.run(SIX, rows);
    }

    private static void byteUpTo99() {
        Rows.run("9:99@99", "sheet(0, 0, 1) = 1", "item(0, 0, 0, 99) = 1", "left(0, 0, 0, 0, 1) = 32", "item(0, 0, 0, -157) = 1",
            "left(0, 0, 0, 0, 1) = 32", "item(0, 0, 0, 227) = 1", "left(0, 0, 0, 0, 1) = 0", "film(0, 1, 0, 0, 0) = 1", "left(0, 0, 0, 0, 1) = 32");
    }

    private static void filmNumbers() {
        Check.sentence("FRUIT of a TREE 1, 2, .. n DAYS (1 .. 24) on, an item each, comes to a SHEET likewise: n. BAD; NULL; CAST; INDEX.");
        Rows.run("5:9@0", "sheet(0, 0, 24) = 24", "film(0, 0, 0, 0, 0) = -1", "film(0, 1, 0, 0, 0) = 1", "film(0, 24, 0, 0, 0) = 24",
            "film(0, 25, 0, 0, 0) = -1", "film(0, -1, 0, 0, 0) = -1", "film(0, MIN, 0, 0, 0) = -1", "film(0, MAX, 0, 0, 0) = -1");
        Rows.run("5:9@0", "sheet(0, 0, 24) = 24", "film(-1, 1, 0, 0, 0) = -1", "film(1, 1, 0, 0, 0) = -1", "film(MIN, 1, 0, 0, 0) = -1",
            "film(MAX, 1, 0, 0, 0) = -1");
        Rows.run(SIX, "sheet(3, 3, 5) = 5", "film(5, 1, 3, 3, 0) = 1", "film(6, 1, 3, 3, 0) = -1", "film(0, 1, 4, 3, 0) = -1",
            "film(0, 1, -1, 3, 0) = -1", "film(0, 1, 3, 4, 0) = -1", "film(0, 1, 3, -1, 0) = -1");
        Rows.run("5:9@0", "film(0, 1, 0, 0, 0) = -11", "film(0, 1, 3, 3, -1) = -11", "film(0, 25, 0, 0, 0) = -1", "film(1, 1, 0, 0, 0) = -1");
        Rows.run("5:9@0", "sheet(0, 1, 5) = 5", "film(0, 1, 0, 0, 0) = -12", "film(0, 1, 0, 2, 0) = -12", "film(0, 1, 0, 3, 9) = -12",
            "film(0, 1, 0, 1, 0) = 1");
        Rows.run("5:9@0", "sheet(0, 1, 5) = 5", "film(0, 5, 0, 1, 0) = 5", "film(0, 6, 0, 1, 0) = -13", "film(0, 4, 0, 1, 1) = 4",
            "film(0, 5, 0, 1, 1) = -13", "film(0, 1, 0, 1, 4) = 1", "film(0, 1, 0, 1, 5) = -13", "film(0, 1, 0, 1, -1) = -13",
            "film(0, 5, 0, 1, -1) = -13", "film(0, 1, 0, 1, MIN) = -13", "film(0, 1, 0, 1, MAX) = -13", "film(0, 24, 0, 1, MAX) = -13");
        Rows.run("5:9@0", "sheet(0, 1, 0) = 0", "film(0, 1, 0, 1, 0) = -13");
    }

    private static void film() {
        Check.sentence("FRUIT of a TREE 1, 2, .. n DAYS (1 .. 24) on, an item each");
        Rows.run("9:3@0,9:2@99,9:1@99,9:0@99,9:9@99", "sheet(0, 2, 5) = 5", "item(0, 2, 0, 9) = 1", "item(0, 2, 4, 9) = 1", "film(0, 3, 0, 2, 1) = 3",
            "left(4, 0, 2, 0, 1) = 32", "left(1, 0, 2, 1, 1) = 32", "left(2, 0, 2, 2, 1) = 32", "left(3, 0, 2, 3, 1) = 32",
            "left(4, 0, 2, 4, 1) = 32", "count(2) = 0", "of(0, 1) = 3");
        Rows.run("9:3@0,9:2@99,9:1@99,9:0@99", "sheet(0, 2, 5) = 5", "item(0, 2, 1, 1) = 1", "film(0, 3, 0, 2, 3) = -13", "left(2, 0, 2, 1, 1) = 32",
            "left(3, 0, 2, 3, 1) = 32", "left(3, 0, 2, 4, 1) = 32");
        Rows.run("9:26@0,9:3@99,9:2@99", "sheet(0, 2, 24) = 24", "film(0, 24, 0, 2, 0) = 24", "left(1, 0, 2, 22, 1) = 32", "left(2, 0, 2, 23, 1) = 32");
        Rows.run("9:9@0,9:4@99,9:0@99;p90=0", "rule(1, 0) = 1", "sheet(0, 3, 2) = 2", "film(0, 2, 0, 3, 0) = 2", "left(1, 0, 3, 0, 1) = 33",
            "left(2, 0, 3, 1, 1) = 33");
    }

    private static void leftNumbers() {
        Check.sentence("LEFT on a TREE by n items of a SHEET taken as a row of a LANE, from item i on. BAD; NULL; CAST; INDEX.");
        Rows.run("5:9@0", "sheet(0, 0, 9) = 9", "left(-1, 0, 0, 0, 1) = -1", "left(1, 0, 0, 0, 1) = -1", "left(MIN, 0, 0, 0, 1) = -1",
            "left(MAX, 0, 0, 0, 1) = -1", "left(0, -1, 0, 0, 1) = -1", "left(0, 4, 0, 0, 1) = -1", "left(0, 0, -1, 0, 1) = -1",
            "left(0, 0, 4, 0, 1) = -1", "left(0, 0, 0, 0, 1) = 0");
        Rows.run(SIX, "sheet(3, 3, 1) = 1", "left(0, 3, 3, 0, 1) = 32", "left(5, 3, 3, 0, 1) = 0", "left(6, 3, 3, 0, 1) = -1");
        Rows.run("5:9@0", "left(0, 0, 0, 0, 1) = -11", "left(0, 3, 3, -1, 8) = -11", "left(0, 0, 0, 0, 9) = -1", "left(0, 0, 0, 0, 0) = -1");
        Rows.run("5:9@0", "sheet(0, 1, 9) = 9", "left(0, 0, 0, 0, 1) = -12", "left(0, 0, 2, 0, 1) = -12", "left(0, 0, 3, 99, 1) = -12",
            "left(0, 0, 3, 99, 9) = -1");
        Rows.run("5:9@0", "sheet(0, 1, 9) = 9", "left(0, 0, 1, -1, 1) = -13", "left(0, 0, 1, 8, 1) = 0", "left(0, 0, 1, 9, 1) = -13",
            "left(0, 0, 1, 1, 8) = 0", "left(0, 0, 1, 2, 8) = -13", "left(0, 0, 1, MIN, 1) = -13", "left(0, 0, 1, MAX, 1) = -13",
            "left(0, 0, 1, MAX, 8) = -13");
        Check.sentence("LEFT: a row tells FRUIT of a TREE behind each of the next n DAYS (1 .. 8)");
        Rows.run("5:9@0", "sheet(0, 0, 24) = 24", "film(0, 24, 0, 0, 0) = 24", "left(0, 0, 0, 0, 0) = -1", "left(0, 0, 0, 0, 1) = 32",
            "left(0, 0, 0, 0, 8) = 32", "left(0, 0, 0, 0, 9) = -1", "left(0, 0, 0, 0, -1) = -1", "left(0, 0, 0, 0, MIN) = -1",
            "left(0, 0, 0, 0, MAX) = -1");
        Rows.run("5:9@0", "sheet(0, 0, 8) = 8", "film(0, 8, 0, 0, 0) = 8", "item(0, 0, 7, 9) = 1", "left(0, 0, 0, 0, 7) = 32", "left(0, 0, 0, 0, 8) = 0");
    }

    private static void left() {
        Check.sentence("LADDERS (a set) of which it would be so, if just this one leant there, no other one (all else as it is)");
        Rows.run("5:20@0;p50,p40,p90,l90", "sheet(0, 0, 2) = 2", "item(0, 0, 0, 14) = 1", "left(0, 0, 0, 0, 1) = 5", "item(0, 0, 1, 8) = 1",
            "left(0, 0, 0, 0, 2) = 5", "item(0, 0, 0, 19) = 1", "left(0, 0, 0, 0, 1) = 42", "item(0, 0, 1, 13) = 1", "left(0, 0, 0, 0, 2) = 8",
            "item(0, 0, 1, 18) = 1", "left(0, 0, 0, 0, 2) = 34", "item(0, 0, 0, 9) = 1", "left(0, 0, 0, 0, 1) = 0");
        Rows.run("5:20@0;p50,p50,p50,p50", "sheet(0, 0, 1) = 1", "item(0, 0, 0, 14) = 1", "left(0, 0, 0, 0, 1) = 15");
        Check.sentence("32 more, if none leant there");
        Rows.run("5:20@0;p40,p40,p40,p40", "sheet(0, 0, 1) = 1", "item(0, 0, 0, 19) = 1", "left(0, 0, 0, 0, 1) = 47");
        Rows.run("5:20@9;p50=0,p50=0,p50,p50", "sheet(0, 0, 1) = 1", "item(0, 0, 0, 20) = 1", "left(0, 0, 0, 0, 1) = 47");
        Rows.run("5:20@0", "sheet(0, 0, 1) = 1", "item(0, 0, 0, 19) = 1", "left(0, 0, 0, 0, 1) = 32", "item(0, 0, 0, 20) = 1", "left(0, 0, 0, 0, 1) = 0");
        Rows.run("5:0@0;p50", "sheet(0, 0, 8) = 8", "left(0, 0, 0, 0, 8) = 33", "item(0, 0, 7, -1) = 1", "left(0, 0, 0, 0, 8) = 0");
        Rows.run("5:9@0;p50", "rule(1, 0) = 1", "sheet(0, 0, 1) = 1", "item(0, 0, 0, 9) = 1", "left(0, 0, 0, 0, 1) = 32", "item(0, 0, 0, 4) = 1",
            "left(0, 0, 0, 0, 1) = 1");
    }

    private static void noOtherOne() {
        Check.sentence("if just this one leant there, no other one (all else as it is)");
        Rows.run("5:20@0,5:30@0;p50=0,p50=0,p50=1", "sheet(0, 0, 1) = 1", "item(0, 0, 0, 9) = 1", "left(0, 0, 0, 0, 1) = 0", "item(0, 0, 0, 14) = 1",
            "left(0, 0, 0, 0, 1) = 7", "item(0, 0, 0, 24) = 1", "left(1, 0, 0, 0, 1) = 7", "at(0, 3) = 0", "at(1, 3) = 0", "at(2, 3) = 1", "count(2) = 0");
        Rows.run("3:20@0;d30=0,p30", "days(1) = 0", "sheet(0, 0, 3) = 3", "item(0, 0, 0, 13) = 1", "item(0, 0, 1, 7) = 1", "left(0, 0, 0, 0, 2) = 3",
            "item(0, 0, 2, 6) = 1", "left(0, 0, 0, 0, 3) = 1", "item(0, 0, 2, 1) = 1", "left(0, 0, 0, 0, 3) = 2");
    }

    private static void copyNumbers() {
        Check.sentence("BAD; NULL (either); CAST: of unlike LANES; INDEX.");
        Rows.run("", "sheet(0, 1, 5) = 5", "sheet(3, 1, 5) = 5", "copy(-1, 0, 0, 0, 1) = -1", "copy(4, 0, 0, 0, 1) = -1", "copy(0, 0, -1, 0, 1) = -1",
            "copy(0, 0, 4, 0, 1) = -1", "copy(MIN, 0, 0, 0, 1) = -1", "copy(0, 0, MAX, 0, 1) = -1", "copy(0, 0, 3, 0, 1) = 1", "copy(3, 0, 0, 0, 1) = 1");
        Rows.run("", "sheet(0, 1, 5) = 5", "copy(0, 0, 1, 0, 1) = -11", "copy(1, 0, 0, 0, 1) = -11", "copy(1, 0, 2, 0, 1) = -11", "copy(1, 0, 1, 0, 1) = -11",
            "copy(1, -1, 0, 0, -1) = -11", "copy(1, 0, 4, 0, 1) = -1");
        for (int a = 0; a < 4; a++) {
            for (int b = 0; b < 4; b++) {
                String due = a == b ? "1" : "-12";
                Rows.run("", "sheet(0, " + a + ", 5) = 5", "sheet(1, " + b + ", 5) = 5", "copy(0, 0, 1, 0, 1) = " + due, "copy(1, 0, 0, 0, 1) = " + due,
                    "copy(0, 0, 1, 0, 0) = " + (a == b ? "0" : "-12"), "copy(0, 9, 1, 9, 9) = " + (a == b ? "-13" : "-12"));
            }
        }
    }

    private static void copyIndex() {
        Check.sentence("n items of a SHEET from i on come to another one (or the same) from j on");
        Rows.run("", "sheet(0, 1, 5) = 5", "sheet(1, 1, 3) = 3", "copy(0, 0, 1, 0, 3) = 3", "copy(0, 0, 1, 0, 4) = -13", "copy(1, 0, 0, 0, 3) = 3",
            "copy(1, 0, 0, 0, 4) = -13", "copy(0, 2, 1, 0, 3) = 3", "copy(0, 3, 1, 0, 3) = -13", "copy(0, 0, 1, 1, 2) = 2", "copy(0, 0, 1, 1, 3) = -13",
            "copy(1, 0, 0, 2, 3) = 3", "copy(1, 0, 0, 3, 3) = -13");
        Rows.run("", "sheet(0, 1, 5) = 5", "sheet(1, 1, 3) = 3", "copy(0, -1, 1, 0, 1) = -13", "copy(0, 0, 1, -1, 1) = -13", "copy(0, 0, 1, 0, -1) = -13",
            "copy(0, 5, 1, 3, 0) = 0", "copy(0, 6, 1, 0, 0) = -13", "copy(0, 0, 1, 4, 0) = -13", "copy(0, -1, 1, 0, 0) = -13", "copy(0, 0, 1, -1, 0) = -13",
            "copy(0, 4, 1, 2, 1) = 1", "copy(0, 5, 1, 0, 1) = -13", "copy(0, 0, 1, 3, 1) = -13");
        Rows.run("", "sheet(0, 1, 5) = 5", "sheet(1, 1, 3) = 3", "copy(0, MAX, 1, 0, 1) = -13", "copy(0, 0, 1, MAX, 1) = -13", "copy(0, 0, 1, 0, MAX) = -13",
            "copy(0, 1, 1, 1, MAX) = -13", "copy(0, MIN, 1, 0, 1) = -13", "copy(0, 0, 1, MIN, 1) = -13", "copy(0, 0, 1, 0, MIN) = -13",
            "copy(0, MIN, 1, MIN, MIN) = -13", "copy(0, MAX, 1, MAX, MAX) = -13", "copy(0, MIN, 1, 0, MAX) = -13");
        Rows.run("", "sheet(0, 1, 0) = 0", "sheet(1, 1, 24) = 24", "copy(0, 0, 1, 24, 0) = 0", "copy(0, 0, 1, 25, 0) = -13", "copy(0, 0, 1, 0, 1) = -13",
            "copy(1, 0, 1, 0, 24) = 24", "copy(1, 0, 1, 0, 25) = -13", "copy(1, 0, 1, 1, 24) = -13");
    }

    private static void copyAsIfTakenAhead() {
        Check.sentence("as if all were taken ahead: n");
        for (int lane = 0; lane < 4; lane++) {
            copied(lane, 0, 0, 0, 1, 4, "00123", "....");
            copied(lane, 0, 1, 0, 0, 4, "12344", "....");
            copied(lane, 0, 0, 0, 3, 2, "01201", "....");
            copied(lane, 0, 2, 0, 2, 3, "01234", "....");
            copied(lane, 0, 0, 0, 0, 5, "01234", "....");
            copied(lane, 0, 1, 1, 0, 4, "01234", "1234");
            copied(lane, 0, 0, 1, 3, 1, "01234", "...0");
            copied(lane, 0, 4, 1, 1, 1, "01234", ".4..");
            copied(lane, 1, 0, 0, 1, 4, "0....", "....");
            copied(lane, 0, 5, 1, 4, 0, "01234", "....");
        }
    }

    /** Sheet 0 is 01234, sheet 1 is of four fives, written as dots; what they are behind a copy. */
    private static void copied(int lane, int from, int i, int to, int j, int n, String due0, String due1) {
        OrchardLadders x = Check.read(SIX);
        x.sheet(0, lane, 5);
        x.sheet(1, lane, 4);
        for (int k = 0; k < 5; k++) {
            x.item(0, lane, k, k);
            x.item(1, lane, Math.min(k, 3), 5);
        }
        Check.due("copy", x.copy(from, i, to, j, n), n);
        Check.same("lane " + lane + " sheet 0", shown(x, 0, lane, 5), due0);
        Check.same("lane " + lane + " sheet 1", shown(x, 1, lane, 4), due1);
    }

    private static String shown(OrchardLadders x, int sheet, int lane, int n) {
        StringBuilder row = new StringBuilder();
        for (int i = 0; i < n; i++) {
            for (int t = 0; t < 6; t++) {
                if (x.left(t, sheet, lane, i, 1) == 32) {
                    row.append(t == 5 ? '.' : (char) ('0' + t));
                }
            }
        }
        return row.toString();
    }
}
