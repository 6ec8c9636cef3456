/** Promises 1 to 6: a new object, rows, place, good, lot, unit. */
public final class SetUpTest {
    private static final Due due = new Due();

    public static void main(String[] args) {
        newObject();
        rows();
        rowsLeavesAllElse();
        rowsForgetsUnits();
        place();
        placeCountsThoseWithin();
        good();
        lot();
        unit();
        unitNeedsRoom();
        due.end();
    }

    private static void newObject() {
        UnitRows x = new UnitRows();
        for (int what = 0; what < 5; what++) {
            due.is("count(" + what + ") of a new object", x.count(what), 0);
        }
        due.refused("told(0, 0) of a new object", Due.NO_SUCH, () -> x.told(0, 0));
        due.refused("unit of no lot", Due.NO_SUCH, () -> x.unit(0, 0, 0, 1));
        x.lot(7, 0);
        for (int place = 0; place < 4; place++) {
            int there = place;
            int most = place < 3 ? 20 : 4;
            for (int i = 0; i < most; i++) {
                x.unit(0, there, 0, 1);
            }
            due.refused("21st unit at a place, or the 65th", Due.NO_ROOM, () -> x.unit(0, there, 0, 1));
        }
        due.is("units made", x.count(0), 64);
        for (int place = 4; place < 16; place++) {
            int there = place;
            due.refused("the 65th unit", Due.NO_ROOM, () -> x.unit(0, there, 0, 1));
        }
        due.is("grams of a piece at first", x.weigh(0, 100), 0);
    }

    private static void rows() {
        UnitRows x = Due.withUnits(3);
        due.refused("rows(-1)", Due.NEGATIVE, () -> x.rows(-1));
        due.refused("rows(least int)", Due.NEGATIVE, () -> x.rows(Integer.MIN_VALUE));
        due.refused("rows(65)", Due.ARGUMENT, () -> x.rows(65));
        due.refused("rows(greatest int)", Due.ARGUMENT, () -> x.rows(Integer.MAX_VALUE));
        due.is("units after refusals", x.count(0), 3);
        due.is("rows after refusals", x.count(3), 3);
        x.rows(2);
        due.is("units made after rows", x.count(0), 0);
        due.is("units that stand after rows", x.count(1), 0);
        due.is("rows after rows", x.count(3), 0);
        due.refused("told after rows", Due.NO_SUCH, () -> x.told(0, 0));
        due.refused("at after rows", Due.INDEX, () -> x.at(4, 0));
        due.is("find after rows", x.find(-1, -1, -1, 0), -1);
        due.is("sum after rows", x.sum(2, 4), 0);
        due.is("first unit", x.unit(1, 4, 3, 5), 0);
        due.is("second unit", x.unit(1, 4, 3, 5), 1);
        due.refused("third unit of two", Due.NO_ROOM, () -> x.unit(1, 4, 3, 5));
        due.refused("split into a third", Due.NO_ROOM, () -> x.split(0, 1));
        due.is("pieces after the refusal", x.told(0, 3), 5);
        x.rows(0);
        due.refused("unit without room", Due.NO_ROOM, () -> x.unit(1, 4, 3, 5));
        x.rows(64);
        for (int i = 0; i < 64; i++) {
            due.is("unit of 64", x.unit(1, i / 16, 3, 5), i);
        }
        due.refused("unit 65 of 64", Due.NO_ROOM, () -> x.unit(1, 9, 3, 5));
    }

    private static void rowsLeavesAllElse() {
        UnitRows x = Due.withChain(3, 3);
        x.place(4, 3);
        x.good(2, 7);
        x.unit(1, 5, 0, 1);
        x.serial(3, 42);
        x.day(11);
        x.lost(2, 1);
        Due.leaveRows(x, 0);
        x.rows(10);
        due.is("lots stay", x.count(2), 2);
        due.is("the day stays", x.count(4), 11);
        due.is("rows are no more", x.count(3), 0);
        x.unit(1, 4, 0, 1);
        x.unit(0, 4, 0, 2);
        x.unit(1, 4, 0, 3);
        due.refused("the place takes as before", Due.NO_ROOM, () -> x.unit(1, 4, 0, 1));
        due.is("grams stay", x.weigh(2, 100), 100 - 3 * 7);
        due.is("a lot's last day stays", x.told(1, 0), 3);
        due.is("a new unit 1 lies in nothing", x.told(1, 2), -1);
        due.is("a new unit 0 holds nothing", x.told(0, 7), 0);
        due.is("a new unit has no serial number", x.packed(0) >> 20, 0);
        x.serial(0, 42);
        due.is("its first row", x.row(0, 0, 0), 1);
        due.is("its second row", x.row(0, 1, 0), 8);
        due.refused("its third row", Due.NO_SUCH, () -> x.row(0, 2, 0));
    }

    /** What the units before rows() were must not be seen in those after it. */
    private static void rowsForgetsUnits() {
        UnitRows x = Due.withChain(3, 3);
        x.unit(1, 0, 0, 1);
        x.serial(3, 42);
        x.rows(64);
        x.unit(1, 4, 0, 1);
        due.is("nothing lies in it", x.told(0, 7), 0);
        due.is("one piece of one unit", x.sum(2, 4), 1);
        due.is("one unit stands", x.count(1), 1);
        due.is("one unit is found", x.find(-1, -1, -1, 1), -1);
        due.refused("one unit is there", Due.INDEX, () -> x.at(4, 1));
        x.place(4, 1);
        x.serial(0, 42);
        x.place(4, 20);
        x.unit(1, 4, 0, 3);
        due.is("it lies in nothing", x.told(1, 2), -1);
        x.split(1, 1);
        due.is("a split one lies in nothing", x.told(2, 2), -1);
        x.unit(1, 4, 0, 1);
        due.is("it has no serial number", x.packed(3) >> 20, 0);
        x.serial(3, 43);
        x.rows(64);
        x.unit(0, 0, 0, 1);
        x.lost(0, 1);
        due.is("a lost one", x.count(1), 0);
        x.rows(64);
        x.unit(0, 0, 0, 1);
        due.is("a new one is GOOD", x.told(0, 0), 0);
        due.is("none that was before expires", x.day(1000), 1);
    }

    private static void place() {
        UnitRows x = Due.withLots();
        due.refused("place -1", Due.ARGUMENT, () -> x.place(-1, 1));
        due.refused("place 16", Due.ARGUMENT, () -> x.place(16, 1));
        due.refused("most -1", Due.ARGUMENT, () -> x.place(0, -1));
        due.refused("most 65", Due.ARGUMENT, () -> x.place(0, 65));
        x.place(0, 0);
        due.refused("unit where none may be", Due.NO_ROOM, () -> x.unit(0, 0, 0, 1));
        x.place(0, 2);
        x.unit(0, 0, 0, 1);
        x.unit(0, 0, 0, 1);
        due.refused("a third where two may be", Due.NO_ROOM, () -> x.unit(0, 0, 0, 1));
        x.place(0, 2);
        due.refused("fewer than stand there", Due.STATE, () -> x.place(0, 1));
        due.refused("wrong most before the state", Due.ARGUMENT, () -> x.place(0, -1));
        x.place(15, 64);
        for (int i = 2; i < 64; i++) {
            x.unit(0, 15, 0, 1);
        }
        due.is("64 units", x.count(1), 64);
        x.place(0, 64);
    }

    private static void placeCountsThoseWithin() {
        UnitRows x = Due.withChain(3, 3);
        due.refused("two of three lie in others", Due.STATE, () -> x.place(4, 2));
        x.place(4, 3);
        due.refused("a fourth", Due.NO_ROOM, () -> x.unit(0, 4, 0, 1));
        x.lost(2, 1);
        x.place(4, 2);
        x.state(1, 5);
        x.place(4, 1);
        due.refused("one stands there", Due.STATE, () -> x.place(4, 0));
        x.move(0, 5);
        x.place(4, 0);
        due.refused("no room to come back", Due.NO_ROOM, () -> x.move(0, 4));
        due.is("it stays", x.told(0, 1), 5);
    }

    private static void good() {
        UnitRows x = Due.withUnits(1);
        due.refused("good -1", Due.ARGUMENT, () -> x.good(-1, 1));
        due.refused("good 8", Due.ARGUMENT, () -> x.good(8, 1));
        due.refused("0 grams", Due.ARGUMENT, () -> x.good(2, 0));
        due.refused("30001 grams", Due.ARGUMENT, () -> x.good(2, 30001));
        due.is("grams after refusals", x.weigh(0, 1000), 500);
        x.good(2, 30000);
        due.is("30000 grams a piece", x.weigh(0, 1), 1 - 150000);
        x.good(2, 1);
        due.is("1 gram a piece", x.weigh(0, 1), -4);
        x.good(0, 9);
        x.good(7, 9);
        due.is("other goods' grams are other's", x.weigh(0, 1), -4);
        for (int good = 0; good < 8; good++) {
            UnitRows y = new UnitRows();
            y.lot(good, 0);
            y.unit(0, 0, 0, 2);
            due.is("grams at first of good " + good, y.weigh(0, 201), 1);
            y.good(good, 60);
            due.is("grams of good " + good, y.weigh(0, 201), 81);
            due.is("sum of good " + good, y.sum(good, 0), 2);
        }
    }

    private static void lot() {
        UnitRows x = new UnitRows();
        due.refused("good -1", Due.ARGUMENT, () -> x.lot(-1, 0));
        due.refused("good 8", Due.ARGUMENT, () -> x.lot(8, 0));
        due.refused("last -1", Due.ARGUMENT, () -> x.lot(0, -1));
        due.refused("last 1001", Due.ARGUMENT, () -> x.lot(0, 1001));
        for (int i = 0; i < 16; i++) {
            due.is("lot", x.lot(i % 8, i % 2 == 0 ? 0 : 1000), i);
            due.is("lots", x.count(2), i + 1);
        }
        due.refused("a 17th", Due.NO_ROOM, () -> x.lot(0, 0));
        due.refused("a 17th of no good", Due.ARGUMENT, () -> x.lot(8, 0));
        due.is("lots at last", x.count(2), 16);
        due.is("unit of lot 15", x.unit(15, 0, 0, 1), 0);
        due.is("its good is 7", x.sum(7, 0), 1);
    }

    private static void unit() {
        UnitRows x = Due.withLots();
        due.refused("lot -1", Due.NO_SUCH, () -> x.unit(-1, 0, 0, 1));
        due.refused("lot 2", Due.NO_SUCH, () -> x.unit(2, 0, 0, 1));
        due.refused("lot 16", Due.NO_SUCH, () -> x.unit(16, 0, 0, 1));
        due.refused("lot 2 before a wrong place", Due.NO_SUCH, () -> x.unit(2, -1, 9, 0));
        due.refused("place -1", Due.ARGUMENT, () -> x.unit(0, -1, 0, 1));
        due.refused("place 16", Due.ARGUMENT, () -> x.unit(0, 16, 0, 1));
        due.refused("owner -1", Due.ARGUMENT, () -> x.unit(0, 0, -1, 1));
        due.refused("owner 8", Due.ARGUMENT, () -> x.unit(0, 0, 8, 1));
        due.refused("no pieces", Due.ARGUMENT, () -> x.unit(0, 0, 0, 0));
        due.refused("1001 pieces", Due.ARGUMENT, () -> x.unit(0, 0, 0, 1001));
        due.is("units after refusals", x.count(0), 0);
        due.is("rows after refusals", x.count(3), 0);
        x.day(10);
        due.is("the first", x.unit(0, 15, 7, 1000), 0);
        x.day(11);
        due.is("the second", x.unit(0, 0, 0, 1), 1);
        due.is("GOOD on the last day, EXPIRED by day()", x.told(0, 0), 3);
        due.is("EXPIRED from the start", x.told(1, 0), 3);
        due.is("the third", x.unit(1, 3, 2, 6), 2);
        int[] told = {0, 3, -1, 6, 1, 2, 1, 0};
        for (int what = 0; what < told.length; what++) {
            due.is("told(2, " + what + ")", x.told(2, what), told[what]);
        }
        due.is("its row's kind", x.row(2, 0, 0), 1);
        due.is("its row's day", x.row(2, 0, 1), 11);
        due.is("its row's number", x.row(2, 0, 2), 3);
        UnitRows y = Due.withLots();
        y.day(10);
        y.unit(0, 0, 0, 1);
        due.is("GOOD on its last day", y.told(0, 0), 0);
    }

    private static void unitNeedsRoom() {
        UnitRows x = Due.withUnits(1);
        Due.leaveRows(x, 0);
        due.refused("a unit without a row", Due.NO_ROOM, () -> x.unit(1, 0, 0, 1));
        due.refused("a wrong owner before that", Due.ARGUMENT, () -> x.unit(1, 0, 8, 1));
        due.is("units", x.count(0), 1);
    }
}
