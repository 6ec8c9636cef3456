/** Promises 10, 11 and 16: split, join, weigh. */
public final class PiecesTest {
    private static final Due due = new Due();

    public static void main(String[] args) {
        split();
        splitWithinAnother();
        splitRefuses();
        splitNeedsRoom();
        join();
        joinRefuses();
        joinNeedsOneKind();
        weigh();
        weighRefuses();
        due.end();
    }

    private static void split() {
        UnitRows x = Due.withUnits(1);
        x.state(0, 1);
        x.day(6);
        due.is("the new unit", x.split(0, 4), 1);
        due.is("pieces that stay", x.told(0, 3), 1);
        int[] told = {1, 4, -1, 4, 1, 3, 1, 0};
        for (int what = 0; what < told.length; what++) {
            due.is("told(1, " + what + ")", x.told(1, what), told[what]);
        }
        due.is("kind of the row of what stays", x.row(0, 2, 0), 5);
        due.is("its day", x.row(0, 2, 1), 6);
        due.is("its number", x.row(0, 2, 2), 1);
        due.is("kind of the new one's row", x.row(1, 0, 0), 1);
        due.is("its day", x.row(1, 0, 1), 6);
        due.is("its number", x.row(1, 0, 2), 4);
        due.is("all rows", x.count(3), 4);
        due.is("units that stand", x.count(1), 2);
        due.is("the new one's good", x.weigh(1, 1000), 600);
        x.day(1000);
        x.state(1, 0);
        due.is("the new one's last day", x.told(1, 0), 0);
    }

    private static void splitWithinAnother() {
        UnitRows x = Due.withChain(3, 3);
        due.is("the new unit", x.split(2, 1), 3);
        due.is("its container", x.told(3, 2), 1);
        due.is("its depth", x.told(3, 6), 3);
        due.is("within the first", x.told(0, 7), 3);
        UnitRows y = Due.withLots();
        y.unit(0, 2, 6, 1000);
        y.day(11);
        due.is("999 of 1000", y.split(0, 999), 1);
        due.is("an EXPIRED one stays EXPIRED", y.told(1, 0), 3);
        due.is("pieces that stay", y.told(0, 3), 1);
        due.is("pieces of the new one", y.told(1, 3), 999);
    }

    private static void splitRefuses() {
        UnitRows x = Due.withChain(4, 2);
        due.refused("unit -1", Due.NO_SUCH, () -> x.split(-1, 1));
        due.refused("unit 4", Due.NO_SUCH, () -> x.split(4, 0));
        due.refused("no pieces", Due.ARGUMENT, () -> x.split(2, 0));
        due.refused("pieces below 0", Due.ARGUMENT, () -> x.split(2, -1));
        due.refused("all its pieces", Due.ARGUMENT, () -> x.split(2, 5));
        due.refused("more", Due.ARGUMENT, () -> x.split(2, 6));
        due.refused("something lies in it", Due.STATE, () -> x.split(0, 1));
        due.refused("wrong pieces before that", Due.ARGUMENT, () -> x.split(0, 5));
        x.lost(2, 1);
        x.state(3, 5);
        due.refused("a LOST one", Due.STATE, () -> x.split(2, 1));
        due.refused("a GONE one", Due.STATE, () -> x.split(3, 1));
        due.refused("a GONE one, wrong pieces", Due.ARGUMENT, () -> x.split(3, 5));
        x.unit(1, 4, 3, 1);
        x.serial(4, 5);
        due.refused("one piece", Due.ARGUMENT, () -> x.split(4, 1));
        due.is("units made", x.count(0), 5);
        due.is("pieces", x.told(2, 3), 5);
    }

    private static void splitNeedsRoom() {
        UnitRows x = Due.withUnits(2);
        x.place(4, 2);
        due.refused("no room at the place", Due.NO_ROOM, () -> x.split(0, 1));
        x.place(4, 9);
        Due.leaveRows(x, 1);
        due.refused("room for one row of two", Due.NO_ROOM, () -> x.split(0, 1));
        due.is("nothing changed", x.told(0, 3), 5);
        due.is("units made", x.count(0), 2);
        due.is("all rows", x.count(3), 399);
        UnitRows y = Due.withUnits(2);
        Due.leaveRows(y, 2);
        due.is("room for both rows", y.split(0, 1), 2);
        due.is("all rows", y.count(3), 400);
        UnitRows z = Due.withLots();
        z.rows(1);
        z.unit(0, 0, 0, 2);
        due.refused("no room for units", Due.NO_ROOM, () -> z.split(0, 1));
        due.is("nothing changed", z.told(0, 3), 2);
    }

    private static void join() {
        UnitRows x = Due.withChain(4, 2);
        x.into(2, 0);
        x.day(4);
        x.join(1, 2);
        due.is("pieces together", x.told(1, 3), 10);
        due.is("it stays where it lay", x.told(1, 2), 0);
        int[] told = {5, -1, -1, 5, 1, 3, 0, 0};
        for (int what = 0; what < told.length; what++) {
            due.is("told(2, " + what + ")", x.told(2, what), told[what]);
        }
        due.is("kind of the row of what stays", x.row(1, 2, 0), 6);
        due.is("its day", x.row(1, 2, 1), 4);
        due.is("its number", x.row(1, 2, 2), 2);
        due.is("kind of the joined one's row", x.row(2, 2, 0), 6);
        due.is("its day", x.row(2, 2, 1), 4);
        due.is("its number", x.row(2, 2, 2), 1);
        due.is("all rows", x.count(3), 4 + 2 + 2);
        due.is("within the container", x.told(0, 7), 1);
        due.is("units that stand", x.count(1), 3);
        UnitRows y = Due.withLots();
        y.unit(0, 0, 0, 600);
        y.unit(0, 0, 0, 400);
        y.join(1, 0);
        due.is("1000 together", y.told(1, 3), 1000);
        due.is("the other's own pieces", y.told(0, 3), 600);
    }

    private static void joinRefuses() {
        UnitRows x = Due.withChain(6, 2);
        due.refused("a -1", Due.NO_SUCH, () -> x.join(-1, 0));
        due.refused("a 6", Due.NO_SUCH, () -> x.join(6, 0));
        due.refused("b -1", Due.NO_SUCH, () -> x.join(2, -1));
        due.refused("b 6", Due.NO_SUCH, () -> x.join(2, 6));
        due.refused("the same", Due.STATE, () -> x.join(2, 2));
        due.refused("something lies in a", Due.STATE, () -> x.join(0, 2));
        due.refused("something lies in b", Due.STATE, () -> x.join(2, 0));
        due.refused("b lies in another", Due.STATE, () -> x.join(2, 1));
        x.lost(3, 1);
        x.lost(4, 1);
        x.state(5, 5);
        due.refused("b is LOST", Due.STATE, () -> x.join(2, 3));
        due.refused("both are LOST", Due.STATE, () -> x.join(3, 4));
        due.refused("a is GONE", Due.STATE, () -> x.join(5, 2));
        x.unit(1, 6, 3, 1);
        x.unit(1, 6, 3, 1);
        x.serial(6, 5);
        due.refused("a has a serial number", Due.STATE, () -> x.join(6, 7));
        due.refused("b has a serial number", Due.STATE, () -> x.join(7, 6));
        x.unit(1, 4, 3, 996);
        due.refused("1001 together", Due.STATE, () -> x.join(2, 8));
        x.unit(1, 4, 3, 5);
        Due.leaveRows(x, 1);
        due.refused("room for one row of two", Due.NO_ROOM, () -> x.join(2, 9));
        due.is("a's pieces", x.told(2, 3), 5);
        due.is("b's state", x.told(9, 0), 0);
    }

    private static void joinNeedsOneKind() {
        UnitRows x = Due.withUnits(3);
        x.unit(0, 4, 3, 5);
        x.unit(1, 4, 2, 5);
        x.unit(1, 5, 3, 5);
        due.refused("another lot", Due.STATE, () -> x.join(0, 3));
        due.refused("another owner", Due.STATE, () -> x.join(0, 4));
        due.refused("another place", Due.STATE, () -> x.join(0, 5));
        x.state(1, 1);
        due.refused("another state", Due.STATE, () -> x.join(0, 1));
        x.state(0, 1);
        x.join(0, 1);
        due.is("both HELD", x.told(0, 3), 10);
        x.state(0, 2);
        x.state(2, 2);
        x.join(2, 0);
        due.is("both DAMAGED", x.told(2, 3), 15);
        UnitRows y = Due.withLots();
        y.unit(0, 0, 0, 1);
        y.unit(0, 0, 0, 2);
        y.day(11);
        y.join(0, 1);
        due.is("both EXPIRED", y.told(0, 3), 3);
        UnitRows z = Due.withUnits(2);
        Due.leaveRows(z, 2);
        z.join(0, 1);
        due.is("room for just two rows", z.count(3), 400);
    }

    private static void weigh() {
        UnitRows x = Due.withChain(2, 2);
        x.day(7);
        due.is("as much as it should", x.weigh(0, 500), 0);
        due.is("more", x.weigh(0, 507), 7);
        due.is("less", x.weigh(0, 1), -499);
        due.is("the greatest", x.weigh(0, 100000000), 99999500);
        due.is("its row's kind", x.row(0, 4, 0), 11);
        due.is("its row's day", x.row(0, 4, 1), 7);
        due.is("its row's number", x.row(0, 4, 2), 100000000);
        due.is("one within", x.weigh(1, 600), 100);
        UnitRows y = Due.withLots();
        y.good(1, 30000);
        y.unit(0, 0, 0, 1000);
        due.is("the heaviest", y.weigh(0, 1), 1 - 30000000);
    }

    private static void weighRefuses() {
        UnitRows x = Due.withUnits(3);
        due.refused("unit -1", Due.NO_SUCH, () -> x.weigh(-1, 1));
        due.refused("unit 3", Due.NO_SUCH, () -> x.weigh(3, 0));
        due.refused("0 grams", Due.ARGUMENT, () -> x.weigh(0, 0));
        due.refused("100000001 grams", Due.ARGUMENT, () -> x.weigh(0, 100000001));
        x.lost(1, 1);
        x.state(2, 5);
        due.refused("a LOST one", Due.STATE, () -> x.weigh(1, 1));
        due.refused("a GONE one", Due.STATE, () -> x.weigh(2, 1));
        due.refused("a GONE one, 0 grams", Due.ARGUMENT, () -> x.weigh(2, 0));
        Due.leaveRows(x, 0);
        due.refused("no room for a row", Due.NO_ROOM, () -> x.weigh(0, 1));
        due.refused("the state before the room", Due.STATE, () -> x.weigh(1, 1));
    }
}
