import java.util.function.Consumer;

/** What the Terms say of refusals: which one it is, which comes first, and that nothing changes. */
public final class RefusalsTest {
    private static final int GREATEST = Integer.MAX_VALUE;
    private static final int LEAST = Integer.MIN_VALUE;
    private static final Due due = new Due();

    public static void main(String[] args) {
        due.sentence(Due.TERMS, "NoSuchElementException: a number of a unit or lot that there is not",
                RefusalsTest::noSuchUnit);
        due.sentence(Due.TERMS, "a number of a unit or lot that there is not", RefusalsTest::noSuchWhereNoneIs);
        due.sentence(Due.TERMS, "IllegalArgumentException: another number outside its range",
                RefusalsTest::outsideItsRange);
        due.sentence(Due.TERMS, "IllegalStateException: not as it is now", RefusalsTest::notAsItIsNow);
        due.sentence(Due.TERMS, "REFUSALS, the first that holds", RefusalsTest::theFirstThatHolds);
        due.sentence(Due.TERMS, "What is refused changes nothing.", RefusalsTest::changesNothing);
        due.sentence(Due.TERMS, "changes nothing", RefusalsTest::changesNoSetting);
        due.end();
    }

    /**
     * Units 0 to 7 at place 4: unit 1 in unit 2, units 3 and 4 alike, unit 5 LOST, unit 6 of one
     * piece, unit 7 GONE. Place 9 takes none.
     */
    private static UnitRows stocked() {
        UnitRows x = Due.withUnits(6);
        x.unit(1, 4, 3, 1);
        x.unit(1, 4, 3, 5);
        x.into(1, 2);
        x.lost(5, 1);
        x.state(7, 5);
        x.place(9, 0);
        return x;
    }

    private static void noSuchUnit() {
        UnitRows x = stocked();
        due.outside("unit of lot", Due.NO_SUCH, 0, 1, n -> x.unit(n, 0, 0, 1));
        due.outside("move", Due.NO_SUCH, 0, 7, n -> x.move(n, 0));
        due.outside("into, the unit", Due.NO_SUCH, 0, 7, n -> x.into(n, 0));
        due.outside("into, the container", Due.NO_SUCH, 0, 7, n -> x.into(0, n));
        due.outside("out", Due.NO_SUCH, 0, 7, n -> x.out(n));
        due.outside("split", Due.NO_SUCH, 0, 7, n -> x.split(n, 1));
        due.outside("join, a", Due.NO_SUCH, 0, 7, n -> x.join(n, 0));
        due.outside("join, b", Due.NO_SUCH, 0, 7, n -> x.join(0, n));
        due.outside("state", Due.NO_SUCH, 0, 7, n -> x.state(n, 1));
        due.outside("serial", Due.NO_SUCH, 0, 7, n -> x.serial(n, 1));
        due.outside("lost", Due.NO_SUCH, 0, 7, n -> x.lost(n, 1));
        due.outside("found", Due.NO_SUCH, 0, 7, n -> x.found(n, 0));
        due.outside("weigh", Due.NO_SUCH, 0, 7, n -> x.weigh(n, 1));
        due.outside("row", Due.NO_SUCH, 0, 7, n -> x.row(n, 0, 0));
        due.outside("told", Due.NO_SUCH, 0, 7, n -> x.told(n, 0));
        due.outside("packed", Due.NO_SUCH, 0, 7, n -> x.packed(n));
    }

    /** Where no unit is, or no more, 0 is a number that there is not; so is 64 where all are. */
    private static void noSuchWhereNoneIs() {
        UnitRows none = new UnitRows();
        due.refused("unit of lot 0 of none", Due.NO_SUCH, () -> none.unit(0, 0, 0, 1));
        noUnit("of a new object", none, 0);
        UnitRows noMore = stocked();
        noMore.rows(64);
        noUnit("after rows()", noMore, 0);
        UnitRows all = Due.withLots();
        for (int i = 0; i < 64; i++) {
            all.unit(1, i / 16, 0, 1);
        }
        noUnit("of 64", all, 64);
        due.is("the last of them", all.told(63, 1), 3);
    }

    private static void noUnit(String what, UnitRows x, int n) {
        due.refused("move " + what, Due.NO_SUCH, () -> x.move(n, 0));
        due.refused("into " + what, Due.NO_SUCH, () -> x.into(n, n));
        due.refused("out " + what, Due.NO_SUCH, () -> x.out(n));
        due.refused("split " + what, Due.NO_SUCH, () -> x.split(n, 1));
        due.refused("join " + what, Due.NO_SUCH, () -> x.join(n, n));
        due.refused("state " + what, Due.NO_SUCH, () -> x.state(n, 1));
        due.refused("serial " + what, Due.NO_SUCH, () -> x.serial(n, 1));
        due.refused("lost " + what, Due.NO_SUCH, () -> x.lost(n, 1));
        due.refused("found " + what, Due.NO_SUCH, () -> x.found(n, 0));
        due.refused("weigh " + what, Due.NO_SUCH, () -> x.weigh(n, 1));
        due.refused("row " + what, Due.NO_SUCH, () -> x.row(n, 0, 0));
        due.refused("told " + what, Due.NO_SUCH, () -> x.told(n, 0));
        due.refused("packed " + what, Due.NO_SUCH, () -> x.packed(n));
    }

    private static void outsideItsRange() {
        UnitRows x = stocked();
        due.outside("most", Due.ARGUMENT, 0, 64, n -> x.place(0, n));
        due.outside("grams a piece", Due.ARGUMENT, 1, 30000, n -> x.good(0, n));
        due.outside("last day", Due.ARGUMENT, 0, 1000, n -> x.lot(0, n));
        due.outside("place of a unit", Due.ARGUMENT, 0, 15, n -> x.unit(1, n, 0, 1));
        due.outside("owner", Due.ARGUMENT, 0, 7, n -> x.unit(1, 0, n, 1));
        due.outside("pieces", Due.ARGUMENT, 1, 1000, n -> x.unit(1, 0, 0, n));
        due.outside("place to move to", Due.ARGUMENT, 0, 15, n -> x.move(0, n));
        due.outside("pieces to split", Due.ARGUMENT, 1, 4, n -> x.split(0, n));
        due.outside("state", Due.ARGUMENT, 0, 5, n -> x.state(0, n));
        for (long number : new long[] {0, -1, 10000000000L, Long.MIN_VALUE, Long.MAX_VALUE}) {
            due.refused("serial number " + number, Due.ARGUMENT, () -> x.serial(6, number));
        }
        due.outside("reason", Due.ARGUMENT, 1, 9, n -> x.lost(0, n));
        due.outside("place to be found at", Due.ARGUMENT, 0, 15, n -> x.found(5, n));
        due.outside("grams weighed", Due.ARGUMENT, 1, 100000000, n -> x.weigh(0, n));
        due.outside("day", Due.ARGUMENT, 0, 1000, n -> x.day(n));
        due.outside("place to ask", Due.ARGUMENT, 0, 15, n -> x.at(n, 0));
        due.outside("good to sum", Due.ARGUMENT, 0, 7, n -> x.sum(n, 0));
        due.outside("place to sum at", Due.ARGUMENT, 0, 15, n -> x.sum(0, n));
        due.outside("what of a row", Due.ARGUMENT, 0, 2, n -> x.row(0, 0, n));
        due.outside("what of a unit", Due.ARGUMENT, 0, 7, n -> x.told(0, n));
        due.is("the day is the one that was", x.count(4), 0);
        due.is("rows of all are those that were", x.count(3), 11);
    }

    private static void notAsItIsNow() {
        UnitRows x = stocked();
        due.refused("more stand at the place", Due.STATE, () -> x.place(4, 5));
        due.refused("move of a LOST one", Due.STATE, () -> x.move(5, 0));
        due.refused("into a GONE one", Due.STATE, () -> x.into(0, 7));
        due.refused("out of nothing", Due.STATE, () -> x.out(0));
        due.refused("split of a unit with another in it", Due.STATE, () -> x.split(2, 1));
        due.refused("join of a unit with itself", Due.STATE, () -> x.join(0, 0));
        due.refused("state EXPIRED", Due.STATE, () -> x.state(0, 3));
        due.refused("serial of five pieces", Due.STATE, () -> x.serial(0, 1));
        due.refused("lost when LOST", Due.STATE, () -> x.lost(5, 1));
        due.refused("found when GOOD", Due.STATE, () -> x.found(0, 0));
        due.refused("weigh of a GONE one", Due.STATE, () -> x.weigh(7, 1));
    }

    /** In an object without room for rows each act has a reason of every kind to be refused. */
    private static void theFirstThatHolds() {
        UnitRows x = stocked();
        Due.leaveRows(x, 0);
        due.refused("place: range", Due.ARGUMENT, () -> x.place(4, -1));
        due.refused("place: state", Due.STATE, () -> x.place(4, 0));
        due.refused("unit: lot", Due.NO_SUCH, () -> x.unit(2, 16, 8, 0));
        due.refused("unit: place", Due.ARGUMENT, () -> x.unit(1, 16, 0, 1));
        due.refused("unit: owner", Due.ARGUMENT, () -> x.unit(1, 9, 8, 1));
        due.refused("unit: pieces", Due.ARGUMENT, () -> x.unit(1, 9, 0, 0));
        due.refused("unit: room", Due.NO_ROOM, () -> x.unit(1, 0, 0, 1));
        due.refused("move: unit", Due.NO_SUCH, () -> x.move(8, 16));
        due.refused("move: range", Due.ARGUMENT, () -> x.move(5, 16));
        due.refused("move: state", Due.STATE, () -> x.move(5, 9));
        due.refused("move: where it is", Due.STATE, () -> x.move(0, 4));
        due.refused("move: room", Due.NO_ROOM, () -> x.move(0, 0));
        due.refused("into: unit", Due.NO_SUCH, () -> x.into(8, 5));
        due.refused("into: container", Due.NO_SUCH, () -> x.into(5, 8));
        due.refused("into: state", Due.STATE, () -> x.into(1, 2));
        due.refused("into: room", Due.NO_ROOM, () -> x.into(1, 0));
        due.refused("out: unit", Due.NO_SUCH, () -> x.out(8));
        due.refused("out: state", Due.STATE, () -> x.out(0));
        due.refused("out: room", Due.NO_ROOM, () -> x.out(1));
        due.refused("split: unit", Due.NO_SUCH, () -> x.split(8, 0));
        due.refused("split: range", Due.ARGUMENT, () -> x.split(7, 5));
        due.refused("split: range, with another in it", Due.ARGUMENT, () -> x.split(2, 0));
        due.refused("split: state", Due.STATE, () -> x.split(7, 4));
        due.refused("split: room", Due.NO_ROOM, () -> x.split(0, 1));
        due.refused("join: a", Due.NO_SUCH, () -> x.join(8, 7));
        due.refused("join: b", Due.NO_SUCH, () -> x.join(7, 8));
        due.refused("join: state", Due.STATE, () -> x.join(3, 7));
        due.refused("join: room", Due.NO_ROOM, () -> x.join(3, 4));
        due.refused("state: unit", Due.NO_SUCH, () -> x.state(8, 6));
        due.refused("state: range", Due.ARGUMENT, () -> x.state(7, 6));
        due.refused("state: state", Due.STATE, () -> x.state(7, 5));
        due.refused("state: room", Due.NO_ROOM, () -> x.state(0, 5));
        due.refused("serial: unit", Due.NO_SUCH, () -> x.serial(8, 0));
        due.refused("serial: range", Due.ARGUMENT, () -> x.serial(7, 0));
        due.refused("serial: state", Due.STATE, () -> x.serial(0, 1));
        due.refused("serial: room", Due.NO_ROOM, () -> x.serial(6, 1));
        due.refused("lost: unit", Due.NO_SUCH, () -> x.lost(8, 0));
        due.refused("lost: range", Due.ARGUMENT, () -> x.lost(7, 0));
        due.refused("lost: state", Due.STATE, () -> x.lost(7, 1));
        due.refused("lost: room", Due.NO_ROOM, () -> x.lost(0, 1));
        due.refused("found: unit", Due.NO_SUCH, () -> x.found(8, 16));
        due.refused("found: range", Due.ARGUMENT, () -> x.found(0, 16));
        due.refused("found: state", Due.STATE, () -> x.found(0, 9));
        due.refused("found: room", Due.NO_ROOM, () -> x.found(5, 0));
        due.refused("weigh: unit", Due.NO_SUCH, () -> x.weigh(8, 0));
        due.refused("weigh: range", Due.ARGUMENT, () -> x.weigh(7, 0));
        due.refused("weigh: state", Due.STATE, () -> x.weigh(7, 1));
        due.refused("weigh: room", Due.NO_ROOM, () -> x.weigh(0, 1));
        due.refused("at: place", Due.ARGUMENT, () -> x.at(16, 64));
        due.refused("row: unit", Due.NO_SUCH, () -> x.row(8, 0, 3));
        due.refused("row: row", Due.NO_SUCH, () -> x.row(1, 2, 3));
        due.refused("row: what", Due.ARGUMENT, () -> x.row(1, 1, 3));
        due.refused("told: unit", Due.NO_SUCH, () -> x.told(8, 8));
        due.refused("told: what", Due.ARGUMENT, () -> x.told(7, 8));
    }

    private static void changesNothing() {
        unchanged("rows(-1)", Due.NEGATIVE, x -> x.rows(-1));
        unchanged("rows(65)", Due.ARGUMENT, x -> x.rows(65));
        unchanged("lot(8, 0)", Due.ARGUMENT, x -> x.lot(8, 0));
        unchanged("lot(0, 1001)", Due.ARGUMENT, x -> x.lot(0, 1001));
        unchanged("unit of no lot", Due.NO_SUCH, x -> x.unit(2, 0, 0, 1));
        unchanged("unit of 1001 pieces", Due.ARGUMENT, x -> x.unit(1, 0, 0, 1001));
        unchanged("unit where none may be", Due.NO_ROOM, x -> x.unit(1, 9, 0, 1));
        unchanged("move to no place", Due.ARGUMENT, x -> x.move(1, 16));
        unchanged("move of a LOST one", Due.STATE, x -> x.move(5, 0));
        unchanged("move where none may be", Due.NO_ROOM, x -> x.move(1, 9));
        unchanged("move of two where none may be", Due.NO_ROOM, x -> x.move(2, 9));
        unchanged("into what lies in it", Due.STATE, x -> x.into(2, 1));
        unchanged("into a GONE one", Due.STATE, x -> x.into(1, 7));
        unchanged("into no unit", Due.NO_SUCH, x -> x.into(1, 8));
        unchanged("out of nothing", Due.STATE, x -> x.out(2));
        unchanged("split of all pieces", Due.ARGUMENT, x -> x.split(0, 5));
        unchanged("split with one in it", Due.STATE, x -> x.split(2, 1));
        unchanged("split at a full place", Due.NO_ROOM, x -> {
            x.place(4, 6);
            x.split(0, 1);
        });
        unchanged("join with a LOST one", Due.STATE, x -> x.join(3, 5));
        unchanged("join with no unit", Due.NO_SUCH, x -> x.join(3, 8));
        unchanged("state to EXPIRED", Due.STATE, x -> x.state(2, 3));
        unchanged("state to none", Due.ARGUMENT, x -> x.state(2, 6));
        unchanged("serial 0", Due.ARGUMENT, x -> x.serial(6, 0));
        unchanged("serial of five pieces", Due.STATE, x -> x.serial(0, 1));
        unchanged("lost for no reason", Due.ARGUMENT, x -> x.lost(2, 0));
        unchanged("lost when GONE", Due.STATE, x -> x.lost(7, 1));
        unchanged("found when GOOD", Due.STATE, x -> x.found(2, 0));
        unchanged("found at no place", Due.ARGUMENT, x -> x.found(5, -1));
        unchanged("found where none may be", Due.NO_ROOM, x -> x.found(5, 9));
        unchanged("weigh of nothing", Due.ARGUMENT, x -> x.weigh(0, 0));
        unchanged("weigh of a LOST one", Due.STATE, x -> x.weigh(5, 1));
        unchanged("day 1001", Due.ARGUMENT, x -> x.day(1001));
        unchanged("day -1", Due.ARGUMENT, x -> x.day(-1));
    }

    private static void unchanged(String what, Class<?> want, Consumer<UnitRows> act) {
        UnitRows x = stocked();
        String before = Due.lookAtRows(x);
        due.leaves(what, want, x, () -> act.accept(x));
        due.same(what + ": the rows", Due.lookAtRows(x), before);
    }

    /** What an object does not tell: how many units fit in, how many a place takes, a good's grams. */
    private static void changesNoSetting() {
        UnitRows x = Due.withLots();
        x.rows(2);
        x.place(4, 2);
        x.good(2, 7);
        x.unit(1, 4, 3, 1);
        due.refused("rows(-1)", Due.NEGATIVE, () -> x.rows(-1));
        due.refused("rows(65)", Due.ARGUMENT, () -> x.rows(65));
        due.refused("rows of the greatest", Due.ARGUMENT, () -> x.rows(GREATEST));
        due.refused("rows of the least", Due.NEGATIVE, () -> x.rows(LEAST));
        due.refused("place 4 takes none", Due.STATE, () -> x.place(4, 0));
        due.refused("place 4 takes 65", Due.ARGUMENT, () -> x.place(4, 65));
        due.refused("place 4 takes -1", Due.ARGUMENT, () -> x.place(4, -1));
        due.refused("good 2 of no grams", Due.ARGUMENT, () -> x.good(2, 0));
        due.refused("good 2 of 30001 grams", Due.ARGUMENT, () -> x.good(2, 30001));
        due.is("grams of a piece", x.weigh(0, 107), 100);
        due.is("room for a second unit, also at the place", x.unit(1, 4, 3, 1), 1);
        due.refused("no room for a third at the place", Due.NO_ROOM, () -> x.unit(1, 4, 3, 1));
        due.refused("no room for a third at another", Due.NO_ROOM, () -> x.unit(1, 5, 3, 1));
        UnitRows y = Due.withUnits(2);
        y.place(4, 2);
        due.refused("place 4 takes one", Due.STATE, () -> y.place(4, 1));
        due.refused("a third", Due.NO_ROOM, () -> y.unit(1, 4, 3, 1));
        y.lost(1, 1);
        due.done("two still", () -> y.unit(1, 4, 3, 1));
        due.refused("three", Due.NO_ROOM, () -> y.found(1, 4));
    }
}
