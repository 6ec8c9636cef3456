/** The sentences of promises 18 to 24: at, find, sum, row, told, packed, count. */
public final class AskingTest {
    private static final int GREATEST = Integer.MAX_VALUE;
    private static final int LEAST = Integer.MIN_VALUE;
    private static final Due due = new Due();

    public static void main(String[] args) {
        due.sentence(18, "The i-th unit (upward) that stands at a place itself", AskingTest::at);
        due.sentence(18, "in nothing", AskingTest::atInNothing);
        due.sentence(18, "IllegalArgumentException: no such place", AskingTest::atNoPlace);
        due.sentence(18, "ArrayIndexOutOfBoundsException (the machine's own): there is none.", AskingTest::atNone);
        due.sentence(19, "The i-th unit (upward, all that were made)", AskingTest::find);
        due.sentence(19, "of a lot, an owner and a state, each -1 for any", AskingTest::findEach);
        due.sentence(19, "-1 if there are not so many", AskingTest::findNone);
        due.sentence(19, "IllegalArgumentException: i is below 0.", AskingTest::findBelow);
        due.sentence(20, "Pieces of a good", AskingTest::sumOfAGood);
        due.sentence(20, "in GOOD units", AskingTest::sumOfGoodUnits);
        due.sentence(20, "at a place, also within others", AskingTest::sumWithin);
        due.sentence(20, "IllegalArgumentException.", AskingTest::sumOutside);
        due.sentence(21, "Of row i of a unit 0 its kind, 1 its day, 2 its number.", AskingTest::row);
        due.sentence(21, "NoSuchElementException: no such unit or row", AskingTest::rowNoSuch);
        due.sentence(21, "IllegalArgumentException: no such what.", AskingTest::rowNoWhat);
        due.sentence(22, "0 its state", () -> toldOf(0, 0, 0, 1, 4, 5));
        due.sentence(22, "1 place (-1 where it stands nowhere)", () -> toldOf(1, 4, 4, 4, -1, -1));
        due.sentence(22, "2 container (-1 none)", () -> toldOf(2, -1, 0, 1, -1, -1));
        due.sentence(22, "3 pieces", () -> toldOf(3, 5, 5, 5, 5, 5));
        due.sentence(22, "4 lot", AskingTest::toldLot);
        due.sentence(22, "5 owner", AskingTest::toldOwner);
        due.sentence(22, "6 how deep (0 where it stands nowhere)", () -> toldOf(6, 1, 2, 3, 0, 0));
        due.sentence(22, "7 how many units lie in it (by whatever)", AskingTest::toldWithin);
        due.sentence(22, "NoSuchElementException", AskingTest::toldNoUnit);
        due.sentence(22, "IllegalArgumentException.", AskingTest::toldNoWhat);
        due.sentence(23, "from the lowest bits 4, 3, 10 (pieces less 1), 3, then the serial number", AskingTest::packed);
        due.sentence(23, "serial number (0 without)", AskingTest::packedSerial);
        due.sentence(23, "NoSuchElementException.", AskingTest::packedNoUnit);
        due.sentence(24, "0 units made, 1 that stand, 2 lots, 3 rows of all, 4 the day", AskingTest::count);
        due.sentence(24, "-1 for another what", AskingTest::countAnother);
        due.end();
    }

    private static void at() {
        UnitRows x = Due.withUnits(6);
        x.move(4, 15);
        x.lost(5, 1);
        x.state(1, 5);
        due.is("the first", x.at(4, 0), 0);
        due.is("the second", x.at(4, 1), 2);
        due.is("the third", x.at(4, 2), 3);
        due.is("at place 15", x.at(15, 0), 4);
        x.move(4, 4);
        x.move(0, 3);
        x.move(0, 4);
        due.is("upward, not as they came", x.at(4, 0), 0);
        due.is("upward, the last", x.at(4, 3), 4);
        UnitRows y = Due.withLots();
        y.place(0, 64);
        for (int i = 0; i < 64; i++) {
            y.unit(1, 0, 0, 1);
        }
        due.is("the last of 64", y.at(0, 63), 63);
        due.refused("one behind it", Due.INDEX, () -> y.at(0, 64));
    }

    private static void atInNothing() {
        UnitRows x = Due.withChain(5, 3);
        due.is("the first", x.at(4, 0), 0);
        due.is("the second, those within passed over", x.at(4, 1), 3);
        due.is("the third", x.at(4, 2), 4);
        due.refused("a fourth", Due.INDEX, () -> x.at(4, 3));
        x.out(2);
        due.is("taken out", x.at(4, 1), 2);
        x.into(0, 4);
        due.is("put in", x.at(4, 0), 2);
    }

    private static void atNoPlace() {
        UnitRows x = Due.withLostAndGone();
        due.outside("place", Due.ARGUMENT, 0, 15, n -> x.at(n, 0));
        due.refused("no place, none there", Due.ARGUMENT, () -> x.at(16, -1));
        x.unit(1, 0, 0, 1);
        x.unit(1, 15, 0, 1);
        due.inside("place", 0, 15, n -> x.at(n, 0));
    }

    private static void atNone() {
        UnitRows x = Due.withUnits(2);
        due.outside("i", Due.INDEX, 0, 1, n -> x.at(4, n));
        due.refused("nothing there", Due.INDEX, () -> x.at(0, 0));
        due.inside("i", 0, 1, n -> x.at(4, n));
        x.lost(0, 1);
        x.state(1, 5);
        due.refused("LOST and GONE ones", Due.INDEX, () -> x.at(4, 0));
        UnitRows y = new UnitRows();
        due.refused("a new object", Due.INDEX, () -> y.at(15, 0));
    }

    private static void find() {
        UnitRows x = Due.withChain(5, 3);
        x.lost(3, 1);
        x.state(4, 5);
        for (int i = 0; i < 5; i++) {
            due.is("any, " + i, x.find(-1, -1, -1, i), i);
        }
        UnitRows y = Due.withLots();
        for (int i = 0; i < 64; i++) {
            y.unit(i % 2, i / 16, i % 8, 1);
        }
        due.is("the last of 64", y.find(-1, -1, -1, 63), 63);
        due.is("upward, of a lot", y.find(1, -1, -1, 31), 63);
        due.is("upward, of an owner", y.find(-1, 7, -1, 7), 63);
    }

    private static void findEach() {
        UnitRows x = Due.withUnits(3);
        x.unit(0, 0, 3, 1);
        x.unit(0, 0, 4, 1);
        x.unit(0, 0, 0, 1);
        x.state(1, 1);
        x.into(2, 0);
        x.state(4, 5);
        due.is("of lot 0", x.find(0, -1, -1, 0), 3);
        due.is("of lot 0, the next", x.find(0, -1, -1, 1), 4);
        due.is("of lot 1", x.find(1, -1, -1, 2), 2);
        due.is("of owner 3", x.find(-1, 3, -1, 3), 3);
        due.is("of owner 0", x.find(-1, 0, -1, 0), 5);
        due.is("HELD", x.find(-1, -1, 1, 0), 1);
        due.is("GOOD", x.find(-1, -1, 0, 1), 2);
        due.is("GONE", x.find(-1, -1, 5, 0), 4);
        due.is("a lot and an owner", x.find(0, 4, -1, 0), 4);
        due.is("a lot and a state", x.find(0, -1, 0, 1), 5);
        due.is("an owner and a state", x.find(-1, 3, 0, 2), 3);
        due.is("all three", x.find(1, 3, 0, 1), 2);
        for (int state = 0; state < 6; state++) {
            UnitRows y = Due.inState(state);
            due.is("in state " + state, y.find(-1, -1, state, 0), 0);
            due.is("in another", y.find(-1, -1, (state + 1) % 6, 0), -1);
        }
    }

    private static void findNone() {
        UnitRows x = Due.withUnits(3);
        due.is("any, not so many", x.find(-1, -1, -1, 3), -1);
        due.is("greatest i", x.find(-1, -1, -1, GREATEST), -1);
        due.is("of a lot, not so many", x.find(1, -1, -1, 3), -1);
        due.is("of a lot without units", x.find(0, -1, -1, 0), -1);
        due.is("of an owner, not so many", x.find(-1, 3, -1, 3), -1);
        due.is("of an owner without units", x.find(-1, 0, -1, 0), -1);
        due.is("of a state, not so many", x.find(-1, -1, 0, 3), -1);
        due.is("of a state without units", x.find(-1, -1, 5, 0), -1);
        due.is("of all three, not so many", x.find(1, 3, 0, 3), -1);
        due.is("a lot that there is not", x.find(2, -1, -1, 0), -1);
        due.is("an owner that there is not", x.find(-1, 8, -1, 0), -1);
        due.is("a state that there is not", x.find(-1, -1, 6, 0), -1);
        due.is("below any lot", x.find(-2, -1, -1, 0), -1);
        due.is("below any owner", x.find(-1, -2, -1, 0), -1);
        due.is("below any state", x.find(-1, -1, -2, 0), -1);
        due.is("in a new object", new UnitRows().find(-1, -1, -1, 0), -1);
    }

    private static void findBelow() {
        UnitRows x = Due.withUnits(3);
        due.refused("i -1", Due.ARGUMENT, () -> x.find(-1, -1, -1, -1));
        due.refused("least i", Due.ARGUMENT, () -> x.find(-1, -1, -1, LEAST));
        due.refused("i -1 where none is", Due.ARGUMENT, () -> x.find(9, 9, 9, -1));
        due.refused("i -1 in a new object", Due.ARGUMENT, () -> new UnitRows().find(-1, -1, -1, -1));
        due.done("i 0", () -> x.find(-1, -1, -1, 0));
    }

    private static void sumOfAGood() {
        UnitRows x = Due.withUnits(3);
        x.unit(0, 4, 3, 100);
        x.lot(2, 10);
        x.unit(2, 4, 0, 7);
        due.is("of all lots and owners", x.sum(2, 4), 15 + 7);
        due.is("of another good", x.sum(1, 4), 100);
        due.is("of a good without units", x.sum(0, 4), 0);
        due.is("of a good without lots", x.sum(7, 4), 0);
        due.is("of nothing", new UnitRows().sum(0, 0), 0);
        x.split(0, 2);
        due.is("split ones", x.sum(2, 4), 15 + 7);
        x.join(1, 0);
        due.is("joined ones", x.sum(2, 4), 15 + 7);
        UnitRows y = Due.withLots();
        y.place(0, 64);
        for (int i = 0; i < 64; i++) {
            y.unit(1, 0, 0, 1000);
        }
        due.is("the greatest", y.sum(2, 0), 64000);
    }

    private static void sumOfGoodUnits() {
        int[] sum = {1, 0, 0, 0, 0, 0};
        for (int state = 0; state < 6; state++) {
            UnitRows x = Due.inState(state);
            due.is("in state " + state, x.sum(1, 0), sum[state]);
        }
        UnitRows y = Due.inState(0);
        y.day(10);
        due.is("on its last day", y.sum(1, 0), 1);
        y.day(11);
        due.is("a day behind it", y.sum(1, 0), 0);
    }

    private static void sumWithin() {
        UnitRows x = Due.withChain(6, 5);
        x.unit(1, 5, 3, 1000);
        due.is("also those within others", x.sum(2, 4), 30);
        due.is("at another place", x.sum(2, 5), 1000);
        due.is("at a place without units", x.sum(2, 15), 0);
        x.state(0, 1);
        due.is("GOOD ones in a HELD one", x.sum(2, 4), 25);
        x.move(0, 5);
        due.is("those that went along", x.sum(2, 5), 1020);
        due.is("what stayed", x.sum(2, 4), 5);
        x.lost(1, 1);
        due.is("without those LOST", x.sum(2, 5), 1000);
    }

    private static void sumOutside() {
        UnitRows x = Due.withLostAndGone();
        due.outside("good", Due.ARGUMENT, 0, 7, n -> x.sum(n, 0));
        due.outside("place", Due.ARGUMENT, 0, 15, n -> x.sum(0, n));
        due.inside("good", 0, 7, n -> x.sum(n, 0));
        due.inside("place", 0, 15, n -> x.sum(0, n));
    }

    private static void row() {
        UnitRows x = Due.withUnits(2);
        x.day(3);
        x.weigh(1, 77);
        x.weigh(0, 55);
        x.day(4);
        x.weigh(1, 88);
        due.hasRow("the first", x, 0, 0, 1, 0, 4);
        due.hasRow("the second", x, 0, 1, 11, 3, 55);
        due.hasRow("the other's second", x, 1, 1, 11, 3, 77);
        due.hasRow("the other's third", x, 1, 2, 11, 4, 88);
        x.lost(1, 1);
        due.hasRow("of a LOST one", x, 1, 2, 11, 4, 88);
        Due.leaveRows(x, 0);
        due.hasRow("the last of 400", x, 0, 395, 11, 4, 1);
    }

    private static void rowNoSuch() {
        UnitRows x = Due.withUnits(2);
        x.weigh(0, 1);
        due.outside("unit", Due.NO_SUCH, 0, 1, n -> x.row(n, 0, 0));
        due.outside("row of two", Due.NO_SUCH, 0, 1, n -> x.row(0, n, 0));
        due.outside("row of one", Due.NO_SUCH, 0, 0, n -> x.row(1, n, 0));
        due.refused("no row, no what", Due.NO_SUCH, () -> x.row(0, 2, 3));
        due.refused("no unit, no what", Due.NO_SUCH, () -> x.row(2, 0, -1));
        due.inside("row of two", 0, 1, n -> x.row(0, n, 0));
        due.inside("unit", 0, 1, n -> x.row(n, 0, 0));
        Due.leaveRows(x, 0);
        due.refused("row 399 of a unit of 399", Due.NO_SUCH, () -> x.row(0, 399, 0));
        due.done("row 398 of a unit of 399", () -> x.row(0, 398, 0));
    }

    private static void rowNoWhat() {
        UnitRows x = Due.withUnits(1);
        due.outside("what", Due.ARGUMENT, 0, 2, n -> x.row(0, 0, n));
        due.inside("what", 0, 2, n -> x.row(0, 0, n));
    }

    /** Of units 0 to 2, each in the one before, unit 2 HELD; of unit 3, LOST, and unit 4, GONE. */
    private static void toldOf(int what, int... told) {
        UnitRows x = Due.withChain(5, 3);
        x.into(4, 3);
        x.state(4, 5);
        x.state(2, 1);
        x.lost(3, 1);
        for (int unit = 0; unit < told.length; unit++) {
            due.is("of unit " + unit, x.told(unit, what), told[unit]);
        }
        x.split(2, 4);
        due.tells("split off", x, 5, 1, 4, 1, 4, 1, 3, 3, 0);
        due.is("pieces that stay", x.told(2, 3), 1);
    }

    private static void toldLot() {
        UnitRows x = new UnitRows();
        for (int lot = 0; lot < 16; lot++) {
            x.lot(0, 0);
            x.unit(lot, 0, 0, 1);
            due.is("lot", x.told(lot, 4), lot);
        }
        x.lost(15, 1);
        due.is("lot of a LOST one", x.told(15, 4), 15);
        x.state(14, 5);
        due.is("lot of a GONE one", x.told(14, 4), 14);
    }

    private static void toldOwner() {
        UnitRows x = Due.withLots();
        for (int owner = 0; owner < 8; owner++) {
            x.unit(1, 0, owner, 1);
            due.is("owner", x.told(owner, 5), owner);
        }
        x.lost(7, 1);
        due.is("owner of a LOST one", x.told(7, 5), 7);
        x.state(6, 5);
        due.is("owner of a GONE one", x.told(6, 5), 6);
    }

    private static void toldWithin() {
        UnitRows x = Due.withChain(7, 5);
        x.into(5, 1);
        int[] within = {5, 4, 2, 1, 0, 0, 0};
        for (int unit = 0; unit < within.length; unit++) {
            due.is("in " + unit, x.told(unit, 7), within[unit]);
        }
        x.lost(3, 1);
        due.is("without those LOST", x.told(0, 7), 3);
        due.is("nothing in a LOST one", x.told(3, 7), 0);
        x.move(1, 0);
        due.is("nothing is left", x.told(0, 7), 0);
    }

    private static void toldNoUnit() {
        UnitRows x = Due.withUnits(4);
        due.outside("unit", Due.NO_SUCH, 0, 3, n -> x.told(n, 0));
        due.refused("no unit, no what", Due.NO_SUCH, () -> x.told(4, 8));
        due.inside("unit", 0, 3, n -> x.told(n, 0));
    }

    private static void toldNoWhat() {
        UnitRows x = Due.withLostAndGone();
        due.outside("what", Due.ARGUMENT, 0, 7, n -> x.told(0, n));
        due.outside("what of a GONE one", Due.ARGUMENT, 0, 7, n -> x.told(2, n));
        due.inside("what", 0, 7, n -> x.told(0, n));
    }

    private static void packed() {
        UnitRows x = new UnitRows();
        for (int i = 0; i < 16; i++) {
            x.lot(0, i == 8 ? 0 : 1000);
        }
        x.unit(0, 0, 0, 1);
        x.unit(15, 0, 0, 1);
        x.unit(0, 0, 7, 1);
        x.unit(0, 0, 0, 1000);
        x.unit(15, 0, 7, 1000);
        x.unit(8, 0, 4, 513);
        due.is("all least", x.packed(0), 0);
        due.is("lot 15", x.packed(1), 15);
        due.is("owner 7", x.packed(2), 7 << 4);
        due.is("1000 pieces", x.packed(3), 999 << 7);
        due.is("all greatest", x.packed(4), 15 + 16 * (7 + 8 * 999));
        due.is("all highest bits", x.packed(5), 8 + 16 * (4 + 8 * 512));
        for (int state = 1; state < 3; state++) {
            x.state(0, state);
            due.is("state " + state, x.packed(0), state << 17);
        }
        x.lost(0, 1);
        due.is("LOST", x.packed(0), 4 << 17);
        x.state(4, 5);
        due.is("GONE, all else greatest", x.packed(4), 15 + 16 * (7 + 8 * (999 + 1024 * 5)));
        x.day(1);
        due.is("EXPIRED", x.packed(5), 8 + 16 * (4 + 8 * (512 + 1024 * 3)));
    }

    private static void packedSerial() {
        UnitRows x = Due.withLots();
        x.unit(1, 0, 5, 1);
        x.unit(1, 0, 5, 1);
        due.is("without", x.packed(0), 1 + (5 << 4));
        x.serial(0, 1);
        due.is("the least", x.packed(0), 1 + (5 << 4) + (1L << 20));
        x.serial(1, 9999999999L);
        x.lost(1, 1);
        due.is("the greatest", x.packed(1), 1 + 16 * (5 + 8 * (1024L * (4 + 8 * 9999999999L))));
    }

    private static void packedNoUnit() {
        UnitRows x = Due.withUnits(3);
        due.outside("unit", Due.NO_SUCH, 0, 2, n -> x.packed(n));
        due.inside("unit", 0, 2, n -> x.packed(n));
        due.refused("in a new object", Due.NO_SUCH, () -> new UnitRows().packed(0));
    }

    private static void count() {
        UnitRows x = Due.withUnits(5);
        x.lost(0, 1);
        x.state(1, 5);
        x.state(2, 1);
        x.day(12);
        x.into(4, 3);
        int[] count = {5, 3, 2, 9, 12};
        for (int what = 0; what < count.length; what++) {
            due.is("count(" + what + ")", x.count(what), count[what]);
        }
        UnitRows y = new UnitRows();
        for (int what = 0; what < 5; what++) {
            due.is("count(" + what + ") of a new object", y.count(what), 0);
        }
        for (int i = 0; i < 16; i++) {
            y.lot(0, 0);
        }
        y.place(0, 64);
        for (int i = 0; i < 64; i++) {
            y.unit(15, 0, 0, 1);
        }
        y.day(1000);
        int[] greatest = {64, 64, 16, 64, 1000};
        for (int what = 0; what < greatest.length; what++) {
            due.is("count(" + what + ") of a full one", y.count(what), greatest[what]);
        }
    }

    private static void countAnother() {
        UnitRows x = Due.withUnits(1);
        for (int what : new int[] {-1, 5, 6, 256, LEAST, LEAST + 1, GREATEST}) {
            due.is("count(" + what + ")", x.count(what), -1);
        }
    }
}
