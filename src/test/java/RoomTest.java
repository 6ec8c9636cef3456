import java.util.function.Consumer;

/** Refusals for want of room (Terms): an act that just fits is done, one row or unit more is refused. */
public final class RoomTest {
    private static final Due due = new Due();

    public static void main(String[] args) {
        due.sentence(Due.TERMS, "UnsupportedOperationException: no room (for units", RoomTest::lastUnit);
        due.sentence(Due.TERMS, "rows", RoomTest::lastRows);
        due.sentence(Due.TERMS, "or at the place)", RoomTest::justFullPlace);
        due.sentence(Due.TERMS, "(64 at first)", RoomTest::allUnits);
        due.end();
    }

    /** Unit 0 to weigh, unit 1 in unit 2, two units 3 and 4 alike, a LOST unit 5, unit 6 of one piece. */
    private static UnitRows stocked() {
        UnitRows x = Due.withUnits(6);
        x.unit(1, 4, 3, 1);
        x.into(1, 2);
        x.lost(5, 1);
        return x;
    }

    private static void lastRows() {
        needs("unit", 1, x -> x.unit(1, 0, 0, 1));
        needs("move", 1, x -> x.move(3, 0));
        needs("move within its place", 1, x -> x.move(1, 4));
        needs("move with another", 1, x -> x.move(2, 0));
        needs("into", 1, x -> x.into(3, 4));
        needs("out", 1, x -> x.out(1));
        needs("split", 2, x -> x.split(3, 1));
        needs("join", 2, x -> x.join(3, 4));
        needs("state", 1, x -> x.state(3, 1));
        needs("state GONE with another", 1, x -> x.state(2, 5));
        needs("serial", 1, x -> x.serial(6, 1));
        needs("lost with another", 1, x -> x.lost(2, 1));
        needs("found", 1, x -> x.found(5, 0));
        needs("weigh", 1, x -> x.weigh(3, 1));
        UnitRows full = stocked();
        Due.leaveRows(full, 0);
        due.done("a day needs no row", () -> full.day(1000));
        due.done("nor does a lot", () -> full.lot(0, 0));
    }

    private static void needs(String what, int rows, Consumer<UnitRows> act) {
        UnitRows fits = stocked();
        Due.leaveRows(fits, rows);
        due.done(what + " into the last rows", () -> act.accept(fits));
        due.is(what + ": all rows", fits.count(3), 400);
        for (int left = 0; left < rows; left++) {
            UnitRows full = stocked();
            Due.leaveRows(full, left);
            due.leaves(what + " with too few rows", Due.NO_ROOM, full, () -> act.accept(full));
        }
    }

    private static void justFullPlace() {
        UnitRows x = Due.withUnits(4);
        x.into(3, 2);
        x.place(4, 5);
        due.done("a split into the last space", () -> x.split(0, 1));
        due.refused("a unit beyond the full place", Due.NO_ROOM, () -> x.unit(1, 4, 0, 1));
        due.refused("a split beyond it", Due.NO_ROOM, () -> x.split(0, 1));
        x.lost(1, 1);
        due.done("found into the last space", () -> x.found(1, 4));
        x.lost(1, 1);
        due.done("a unit into the last space", () -> x.unit(1, 4, 0, 1));
        due.refused("found beyond it", Due.NO_ROOM, () -> x.found(1, 4));
        x.place(5, 2);
        due.done("two into a place for two", () -> x.move(2, 5));
        due.is("both are there", x.told(3, 1), 5);
        due.done("out at a full place", () -> x.out(3));
        due.done("into at a full place", () -> x.into(2, 3));
        due.done("move within a full place", () -> x.move(2, 5));
        x.place(15, 1);
        due.done("one into place 15", () -> x.move(2, 15));
        due.refused("more into place 15", Due.NO_ROOM, () -> x.move(3, 15));
        due.is("it stays", x.told(3, 1), 5);
    }

    private static void lastUnit() {
        UnitRows x = Due.withLots();
        x.rows(2);
        x.unit(1, 0, 0, 5);
        due.is("split into the last unit", x.split(0, 1), 1);
        x.state(1, 5);
        due.refused("GONE ones were made too", Due.NO_ROOM, () -> x.unit(1, 0, 0, 5));
        UnitRows y = Due.withLots();
        y.place(0, 64);
        for (int i = 0; i < 64; i++) {
            y.unit(1, 0, 0, 5);
        }
        y.lost(63, 1);
        due.refused("a 65th by split", Due.NO_ROOM, () -> y.split(0, 1));
        due.refused("a 65th unit", Due.NO_ROOM, () -> y.unit(1, 1, 0, 5));
        due.is("pieces", y.told(0, 3), 5);
        due.is("rows", y.count(3), 65);
    }

    /** Every call that looks at all units, where the last of 64 is among them. */
    private static void allUnits() {
        UnitRows x = Due.withLots();
        x.place(0, 64);
        for (int i = 0; i < 64; i++) {
            x.unit(0, 0, 0, 1);
        }
        x.serial(63, 7);
        due.refused("unit 63 has the number", Due.STATE, () -> x.serial(0, 7));
        x.into(63, 62);
        x.into(62, 61);
        due.is("within 61", x.told(61, 7), 2);
        x.into(61, 0);
        due.is("63 is 4 deep", x.told(63, 6), 4);
        x.move(61, 1);
        due.is("63 goes along", x.told(63, 1), 1);
        due.is("at place 0", x.sum(1, 0), 61);
        due.is("at place 0 itself", x.at(0, 60), 60);
        due.is("the last of all", x.find(0, 0, 0, 63), 63);
        x.join(0, 60);
        x.lost(62, 1);
        due.is("63 is LOST too", x.told(63, 0), 4);
        due.is("units that stand", x.count(1), 61);
        x.found(63, 1);
        due.is("units that expire", x.day(11), 62);
        x.state(63, 5);
        due.is("63 is GONE", x.find(-1, -1, 5, 1), 63);
        due.refused("unit 64", Due.NO_SUCH, () -> x.told(64, 0));
    }
}
