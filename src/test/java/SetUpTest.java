/** The sentences of promises 1 to 6: a new object, rows, place, good, lot, unit. */
public final class SetUpTest {
    private static final int LAST = 10;
    private static final Due due = new Due();

    public static void main(String[] args) {
        due.sentence(1, "No lots or units", SetUpTest::newObject);
        due.sentence(1, "day 0", SetUpTest::dayOfANewObject);
        due.sentence(2, "Units and rows are no more", SetUpTest::rowsForgets);
        due.sentence(2, "no more", SetUpTest::rowsLeavesNoTrace);
        due.sentence(2, "from now on there is room for n units", SetUpTest::rowsMakesRoom);
        due.sentence(2, "(all else stays)", SetUpTest::rowsLeavesAllElse);
        due.sentence(2, "NegativeArraySizeException (the machine's own): n is below 0", SetUpTest::rowsBelow);
        due.sentence(2, "IllegalArgumentException: above 64", SetUpTest::rowsAbove);
        due.sentence(3, "A place takes at most so many units (0 .. 64).", SetUpTest::placeTakes);
        due.sentence(3, "IllegalArgumentException", SetUpTest::placeOutside);
        due.sentence(3, "IllegalStateException: more stand there.", SetUpTest::moreStandThere);
        due.sentence(4, "A good has so many grams a piece (1 .. 30000).", SetUpTest::goodGrams);
        due.sentence(4, "IllegalArgumentException.", SetUpTest::goodOutside);
        due.sentence(5, "A lot of a good with its last day (0 .. 1000)", SetUpTest::lotLastDay);
        due.sentence(5, "its number", SetUpTest::lotNumber);
        due.sentence(5, "IllegalArgumentException", SetUpTest::lotOutside);
        due.sentence(5, "UnsupportedOperationException: there are sixteen.", SetUpTest::seventeenthLot);
        due.sentence(6, "so many pieces (1 .. 1000)", SetUpTest::unitPieces);
        due.sentence(6, "GOOD, or EXPIRED if the lot's day is over", SetUpTest::unitState);
        due.sentence(6, "its number", SetUpTest::unitNumber);
        due.sentence(6, "NoSuchElementException", SetUpTest::unitOfNoLot);
        due.sentence(6, "IllegalArgumentException", SetUpTest::unitOutside);
        due.sentence(6, "UnsupportedOperationException.", SetUpTest::unitWithoutRoom);
        due.end();
    }

    private static void newObject() {
        UnitRows x = new UnitRows();
        for (int what = 0; what < 5; what++) {
            due.is("count(" + what + ")", x.count(what), 0);
        }
        due.refused("told of unit 0", Due.NO_SUCH, () -> x.told(0, 0));
        due.refused("unit of lot 0", Due.NO_SUCH, () -> x.unit(0, 0, 0, 1));
        due.is("find of any", x.find(-1, -1, -1, 0), -1);
        for (int place = 0; place < 16; place++) {
            int there = place;
            due.refused("at " + place, Due.INDEX, () -> x.at(there, 0));
            due.is("sum at " + place, x.sum(place % 8, place), 0);
        }
        due.is("units that expire", x.day(1000), 0);
    }

    private static void dayOfANewObject() {
        UnitRows x = new UnitRows();
        due.is("the day", x.count(4), 0);
        x.lot(0, 0);
        x.unit(0, 0, 0, 1);
        due.is("a lot of last day 0 is not over", x.told(0, 0), 0);
        due.is("its row's day", x.row(0, 0, 1), 0);
        due.done("day 0 is not before it", () -> x.day(0));
    }

    private static void rowsForgets() {
        UnitRows x = Due.withChain(5, 3);
        x.lost(3, 1);
        x.rows(64);
        due.is("units made", x.count(0), 0);
        due.is("units that stand", x.count(1), 0);
        due.is("rows", x.count(3), 0);
        due.refused("told", Due.NO_SUCH, () -> x.told(0, 0));
        due.refused("row", Due.NO_SUCH, () -> x.row(0, 0, 0));
        due.refused("packed", Due.NO_SUCH, () -> x.packed(0));
        due.refused("found", Due.NO_SUCH, () -> x.found(3, 0));
        due.refused("at", Due.INDEX, () -> x.at(4, 0));
        due.is("find", x.find(-1, -1, -1, 0), -1);
        due.is("sum", x.sum(2, 4), 0);
        due.done("none stands at the place", () -> x.place(4, 0));
        due.is("none expires", x.day(1000), 0);
        UnitRows y = Due.withUnits(1);
        Due.leaveRows(y, 0);
        y.rows(64);
        y.unit(1, 4, 3, 5);
        due.is("the rows are free again", y.count(3), 1);
    }

    /** What the units before rows() were must not be seen in those after it. */
    private static void rowsLeavesNoTrace() {
        UnitRows x = Due.withChain(3, 3);
        x.unit(1, 0, 0, 1);
        x.serial(3, 42);
        x.rows(64);
        x.unit(1, 4, 0, 1);
        due.is("nothing lies in it", x.told(0, 7), 0);
        due.is("one piece of one unit", x.sum(2, 4), 1);
        due.is("one unit stands", x.count(1), 1);
        due.is("one unit is found", x.find(-1, -1, -1, 1), -1);
        due.refused("one unit is there", Due.INDEX, () -> x.at(4, 1));
        due.refused("one row of it", Due.NO_SUCH, () -> x.row(0, 1, 0));
        due.done("one may be there", () -> x.place(4, 1));
        due.done("the serial number is free", () -> x.serial(0, 42));
        x.place(4, 20);
        x.unit(1, 4, 0, 3);
        due.is("it lies in nothing", x.told(1, 2), -1);
        x.split(1, 1);
        due.is("a split one lies in nothing", x.told(2, 2), -1);
        x.unit(1, 4, 0, 1);
        due.is("it has no serial number", x.packed(3) >> 20, 0);
        due.done("so it may have one", () -> x.serial(3, 43));
        x.rows(64);
        x.unit(0, 0, 0, 1);
        x.lost(0, 1);
        due.is("a lost one", x.count(1), 0);
        x.rows(64);
        x.unit(0, 0, 0, 1);
        due.is("a new one is GOOD", x.told(0, 0), 0);
        due.is("none that was before expires", x.day(1000), 1);
    }

    private static void rowsMakesRoom() {
        for (int n : new int[] {0, 1, 2, 63, 64}) {
            UnitRows x = Due.withUnits(3);
            x.rows(n);
            for (int i = 0; i < n; i++) {
                due.is("unit of " + n, x.unit(1, i / 16, 3, 5), i);
            }
            due.refused("one more than " + n, Due.NO_ROOM, () -> x.unit(1, 9, 3, 5));
            if (n > 0) {
                due.refused("one more than " + n + " by split", Due.NO_ROOM, () -> x.split(0, 1));
            }
            x.rows(1);
            due.is("from now on", x.unit(1, 9, 3, 5), 0);
            due.refused("only one", Due.NO_ROOM, () -> x.unit(1, 9, 3, 5));
        }
        UnitRows y = Due.withLots();
        y.rows(2);
        y.unit(1, 9, 3, 5);
        due.is("the last by split", y.split(0, 1), 1);
    }

    private static void rowsLeavesAllElse() {
        UnitRows x = Due.withChain(3, 3);
        x.place(4, 3);
        x.good(2, 7);
        x.day(LAST + 1);
        x.rows(10);
        due.is("lots", x.count(2), 2);
        due.is("the day", x.count(4), LAST + 1);
        x.unit(1, 4, 0, 1);
        x.unit(0, 4, 0, 2);
        x.unit(1, 4, 0, 3);
        due.refused("what the place takes", Due.NO_ROOM, () -> x.unit(1, 4, 0, 1));
        due.is("a good's grams", x.weigh(2, 100), 100 - 3 * 7);
        due.is("a lot's last day", x.told(1, 0), 3);
        due.is("a lot's good", x.sum(2, 4), 4);
        due.refused("the day can't go back", Due.ARGUMENT, () -> x.day(LAST));
        due.is("the next lot", x.lot(0, 0), 2);
    }

    private static void rowsBelow() {
        UnitRows x = Due.withUnits(3);
        due.leaves("rows(-1)", Due.NEGATIVE, x, () -> x.rows(-1));
        due.leaves("rows(-64)", Due.NEGATIVE, x, () -> x.rows(-64));
        due.leaves("rows of the least", Due.NEGATIVE, x, () -> x.rows(Integer.MIN_VALUE));
        due.done("rows(0)", () -> x.rows(0));
    }

    private static void rowsAbove() {
        UnitRows x = Due.withUnits(3);
        due.leaves("rows(65)", Due.ARGUMENT, x, () -> x.rows(65));
        due.leaves("rows(256)", Due.ARGUMENT, x, () -> x.rows(256));
        due.leaves("rows of the greatest", Due.ARGUMENT, x, () -> x.rows(Integer.MAX_VALUE));
        due.done("rows(64)", () -> x.rows(64));
    }

    private static void placeTakes() {
        UnitRows x = Due.withLots();
        x.place(0, 0);
        due.refused("one where none may be", Due.NO_ROOM, () -> x.unit(0, 0, 0, 1));
        x.place(0, 2);
        x.unit(0, 0, 0, 1);
        due.done("a second of two", () -> x.unit(0, 0, 0, 1));
        due.refused("a third of two", Due.NO_ROOM, () -> x.unit(0, 0, 0, 1));
        due.done("a third elsewhere", () -> x.unit(0, 1, 0, 1));
        x.place(15, 64);
        for (int i = 3; i < 64; i++) {
            x.unit(0, 15, 0, 1);
        }
        for (int i = 0; i < 3; i++) {
            x.move(i, 15);
        }
        due.is("64 units at one place", x.at(15, 63), 63);
        due.done("64 may be there", () -> x.place(15, 64));
        due.refused("63 may not", Due.STATE, () -> x.place(15, 63));
    }

    private static void placeOutside() {
        UnitRows x = Due.withUnits(1);
        due.outside("place", Due.ARGUMENT, 0, 15, n -> x.place(n, 1));
        due.outside("most", Due.ARGUMENT, 0, 64, n -> x.place(4, n));
        due.inside("place", 0, 15, n -> x.place(n, 1));
        due.inside("most", 0, 64, n -> x.place(0, n));
        for (int i = 1; i < 20; i++) {
            x.unit(1, 4, 3, 5);
        }
        due.refused("it takes as many as before", Due.NO_ROOM, () -> x.unit(1, 4, 3, 5));
    }

    private static void moreStandThere() {
        UnitRows x = Due.withChain(4, 3);
        due.refused("three of four", Due.STATE, () -> x.place(4, 3));
        due.refused("none of four", Due.STATE, () -> x.place(4, 0));
        due.done("as many as stand there", () -> x.place(4, 4));
        x.lost(3, 1);
        due.done("LOST ones stand nowhere", () -> x.place(4, 3));
        x.state(2, 5);
        due.done("nor do GONE ones", () -> x.place(4, 2));
        due.refused("one lies in the other", Due.STATE, () -> x.place(4, 1));
        x.move(0, 5);
        due.done("none stands there", () -> x.place(4, 0));
        due.refused("two came along to place 5", Due.STATE, () -> x.place(5, 1));
    }

    private static void goodGrams() {
        UnitRows x = Due.withUnits(1);
        x.good(2, 30000);
        due.is("30000 grams a piece", x.weigh(0, 1), 1 - 150000);
        x.good(2, 1);
        due.is("1 gram a piece", x.weigh(0, 1), -4);
        x.good(1, 9);
        x.good(3, 9);
        due.is("other goods' grams are their own", x.weigh(0, 1), -4);
        due.outside("grams", Due.ARGUMENT, 1, 30000, n -> x.good(2, n));
        due.is("grams after refusals", x.weigh(0, 1), -4);
        for (int good = 0; good < 8; good++) {
            UnitRows y = new UnitRows();
            y.lot(good, 0);
            y.unit(0, 0, 0, 2);
            y.good(good, 60);
            due.is("grams of good " + good, y.weigh(0, 201), 81);
        }
    }

    private static void goodOutside() {
        UnitRows x = new UnitRows();
        due.outside("good", Due.ARGUMENT, 0, 7, n -> x.good(n, 1));
        due.inside("good", 0, 7, n -> x.good(n, 1));
    }

    private static void lotLastDay() {
        UnitRows x = new UnitRows();
        due.outside("last", Due.ARGUMENT, 0, 1000, n -> x.lot(0, n));
        due.is("lots after refusals", x.count(2), 0);
        due.is("last day 0", x.lot(0, 0), 0);
        due.is("last day 1000", x.lot(7, 1000), 1);
        x.unit(0, 0, 0, 1);
        x.unit(1, 0, 0, 1);
        due.is("behind day 0", x.day(1), 1);
        due.is("the first is over", x.told(0, 0), 3);
        due.is("day 1000 is not behind day 1000", x.day(1000), 0);
        due.is("a lot that is over already", x.lot(3, 999), 2);
    }

    private static void lotNumber() {
        UnitRows x = new UnitRows();
        for (int lot = 0; lot < 16; lot++) {
            due.is("lot", x.lot(lot % 8, 0), lot);
            due.is("lots", x.count(2), lot + 1);
        }
    }

    private static void lotOutside() {
        UnitRows x = new UnitRows();
        due.outside("good", Due.ARGUMENT, 0, 7, n -> x.lot(n, 0));
        due.inside("good", 0, 7, n -> x.lot(n, 0));
        due.is("lots", x.count(2), 2);
    }

    private static void seventeenthLot() {
        UnitRows x = new UnitRows();
        for (int i = 0; i < 15; i++) {
            x.lot(0, 0);
        }
        due.done("a 16th", () -> x.lot(7, 1000));
        due.refused("a 17th", Due.NO_ROOM, () -> x.lot(0, 0));
        due.refused("a 17th of no good", Due.ARGUMENT, () -> x.lot(8, 0));
        due.refused("a 17th with no day", Due.ARGUMENT, () -> x.lot(0, 1001));
        due.is("lots", x.count(2), 16);
        x.unit(15, 0, 0, 1);
        due.is("lot 15 is of good 7", x.sum(7, 0), 1);
        x.rows(64);
        due.refused("a 17th after rows()", Due.NO_ROOM, () -> x.lot(0, 0));
    }

    private static void unitPieces() {
        UnitRows x = Due.withLots();
        due.outside("pieces", Due.ARGUMENT, 1, 1000, n -> x.unit(1, 0, 0, n));
        x.unit(1, 0, 0, 1);
        x.unit(1, 0, 0, 1000);
        due.is("1 piece", x.told(0, 3), 1);
        due.is("1000 pieces", x.told(1, 3), 1000);
    }

    private static void unitState() {
        UnitRows x = Due.withLots();
        x.day(LAST);
        x.unit(0, 0, 0, 1);
        due.is("on the last day", x.told(0, 0), 0);
        x.day(LAST + 1);
        x.unit(0, 0, 0, 1);
        due.is("a day behind it", x.told(1, 0), 3);
        due.is("it has expired already", x.day(LAST + 2), 0);
        x.unit(1, 3, 2, 6);
        due.tells("of a lot that is not over", x, 2, 0, 3, -1, 6, 1, 2, 1, 0);
        due.hasRow("made", x, 2, 0, 1, LAST + 2, 3);
    }

    private static void unitNumber() {
        UnitRows x = Due.withLots();
        due.is("the first", x.unit(1, 0, 0, 2), 0);
        due.is("the second", x.unit(0, 0, 0, 1), 1);
        x.state(1, 5);
        due.is("behind a GONE one", x.unit(0, 0, 0, 1), 2);
        x.split(0, 1);
        due.is("behind a split one", x.unit(0, 0, 0, 1), 4);
        due.refused("no lot", Due.NO_SUCH, () -> x.unit(2, 0, 0, 1));
        due.is("a refused one has no number", x.unit(0, 0, 0, 1), 5);
    }

    private static void unitOfNoLot() {
        UnitRows x = new UnitRows();
        due.refused("lot 0 of none", Due.NO_SUCH, () -> x.unit(0, 0, 0, 1));
        x.lot(0, 0);
        due.outside("lot", Due.NO_SUCH, 0, 0, n -> x.unit(n, 0, 0, 1));
        due.refused("lot 1 before all else", Due.NO_SUCH, () -> x.unit(1, -1, 9, 0));
        due.done("lot 0 of one", () -> x.unit(0, 0, 0, 1));
    }

    private static void unitOutside() {
        UnitRows x = Due.withLots();
        due.outside("place", Due.ARGUMENT, 0, 15, n -> x.unit(0, n, 0, 1));
        due.outside("owner", Due.ARGUMENT, 0, 7, n -> x.unit(0, 0, n, 1));
        due.is("units after refusals", x.count(0), 0);
        due.is("rows after refusals", x.count(3), 0);
        due.inside("place", 0, 15, n -> x.unit(0, n, 0, 1));
        due.inside("owner", 0, 7, n -> x.unit(0, 0, n, 1));
    }

    private static void unitWithoutRoom() {
        UnitRows x = Due.withUnits(1);
        Due.leaveRows(x, 0);
        due.refused("no row", Due.NO_ROOM, () -> x.unit(1, 0, 0, 1));
        due.refused("a wrong owner before that", Due.ARGUMENT, () -> x.unit(1, 0, 8, 1));
        due.is("units", x.count(0), 1);
        UnitRows y = Due.withUnits(1);
        y.place(4, 1);
        due.refused("no room at the place", Due.NO_ROOM, () -> y.unit(1, 4, 0, 1));
        y.rows(0);
        due.refused("no room for units", Due.NO_ROOM, () -> y.unit(1, 0, 0, 1));
        due.refused("wrong pieces before that", Due.ARGUMENT, () -> y.unit(1, 0, 0, 0));
        due.is("units", y.count(0), 0);
    }
}
