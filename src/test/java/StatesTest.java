/** Promises 12, 13, 14, 15, 17 and 23: state, serial, lost, found, day, packed. */
public final class StatesTest {
    private static final int LAST = 10;
    private static final Due due = new Due();

    public static void main(String[] args) {
        allWays();
        waysWhenTheDayIsOver();
        stateRows();
        stateRefuses();
        goneWithAllWithin();
        serial();
        serialRefuses();
        lost();
        lostRefuses();
        found();
        foundRefuses();
        day();
        dayRefuses();
        packed();
        due.end();
    }

    /** A new object whose unit 0 is in this state; its lot's day is not over, but for EXPIRED. */
    private static UnitRows inState(int state) {
        UnitRows x = Due.withLots();
        x.unit(0, 0, 0, 1);
        if (state == 1 || state == 2 || state == 5) {
            x.state(0, state);
        } else if (state == 3) {
            x.day(LAST + 1);
        } else if (state == 4) {
            x.lost(0, 1);
        }
        due.is("made for a test", x.told(0, 0), state);
        return x;
    }

    private static void ways(int from, int day, int... open) {
        for (int to = 0; to < 6; to++) {
            UnitRows x = inState(from);
            x.day(Math.max(day, x.count(4)));
            int next = to;
            boolean leads = false;
            for (int way : open) {
                leads |= way == to;
            }
            String what = "from " + from + " to " + to + " on day " + x.count(4);
            int before = x.count(3);
            due.refused(what, leads ? null : Due.STATE, () -> x.state(0, next));
            due.is(what + ": state", x.told(0, 0), leads ? to : from);
            due.is(what + ": rows", x.count(3), leads ? before + 1 : before);
        }
    }

    private static void allWays() {
        ways(0, LAST, 1, 2, 5);
        ways(1, LAST, 0, 2, 5);
        ways(2, LAST, 1, 5);
        ways(3, LAST, 5);
        ways(4, LAST);
        ways(5, LAST);
    }

    private static void waysWhenTheDayIsOver() {
        ways(2, LAST + 1, 5);
        ways(4, LAST + 1);
        ways(5, LAST + 1);
    }

    private static void stateRows() {
        UnitRows x = Due.withUnits(1);
        x.day(9);
        x.state(0, 2);
        due.is("its row's kind", x.row(0, 1, 0), 7);
        due.is("its row's day", x.row(0, 1, 1), 9);
        due.is("its row's number", x.row(0, 1, 2), 2);
        due.is("it stays at its place", x.told(0, 1), 4);
    }

    private static void stateRefuses() {
        UnitRows x = Due.withUnits(1);
        due.refused("unit -1", Due.NO_SUCH, () -> x.state(-1, 1));
        due.refused("unit 1", Due.NO_SUCH, () -> x.state(1, 6));
        due.refused("state -1", Due.ARGUMENT, () -> x.state(0, -1));
        due.refused("state 6", Due.ARGUMENT, () -> x.state(0, 6));
        Due.leaveRows(x, 0);
        due.refused("no room for a row", Due.NO_ROOM, () -> x.state(0, 1));
        due.refused("nor to be GONE", Due.NO_ROOM, () -> x.state(0, 5));
        due.refused("the state before the room", Due.STATE, () -> x.state(0, 0));
        due.is("its state", x.told(0, 0), 0);
    }

    private static void goneWithAllWithin() {
        UnitRows x = Due.withChain(7, 5);
        x.into(5, 1);
        x.state(3, 1);
        x.state(1, 5);
        for (int u = 1; u < 6; u++) {
            due.is("state of " + u, x.told(u, 0), 5);
            due.is("place of " + u, x.told(u, 1), -1);
            due.is("container of " + u, x.told(u, 2), -1);
            due.is("depth of " + u, x.told(u, 6), 0);
            due.is("within " + u, x.told(u, 7), 0);
        }
        due.is("what it lay in", x.told(0, 0), 0);
        due.is("within what it lay in", x.told(0, 7), 0);
        due.is("one beside", x.told(6, 0), 0);
        due.is("units that stand", x.count(1), 2);
        due.is("all rows", x.count(3), 7 + 5 + 1 + 1);
        due.is("its row's number", x.row(1, 2, 2), 5);
        due.refused("those within have no row", Due.NO_SUCH, () -> x.row(2, 2, 0));
    }

    private static void serial() {
        UnitRows x = Due.withLots();
        for (int i = 0; i < 4; i++) {
            x.unit(1, 0, 0, 1);
        }
        x.day(5);
        x.serial(0, 9999999999L);
        x.serial(1, 1);
        due.is("the greatest", x.packed(0) >> 20, 9999999999L);
        due.is("the least", x.packed(1) >> 20, 1);
        due.is("its row's kind", x.row(0, 1, 0), 8);
        due.is("its row's day", x.row(0, 1, 1), 5);
        due.is("its row's number", x.row(0, 1, 2), 0);
        due.refused("one that another has", Due.STATE, () -> x.serial(2, 1));
        due.refused("one that unit 0 has", Due.STATE, () -> x.serial(2, 9999999999L));
        x.lost(1, 1);
        due.refused("one that a LOST one has", Due.STATE, () -> x.serial(2, 1));
        x.found(1, 0);
        due.is("a found one has it still", x.packed(1) >> 20, 1);
        x.state(1, 5);
        due.is("a GONE one has it still", x.packed(1) >> 20, 1);
        x.serial(2, 1);
        due.is("one that a GONE one had", x.packed(2) >> 20, 1);
        due.refused("now another has it", Due.STATE, () -> x.serial(3, 1));
    }

    private static void serialRefuses() {
        UnitRows x = Due.withUnits(1);
        x.unit(1, 4, 3, 1);
        x.unit(1, 4, 3, 1);
        x.unit(1, 4, 3, 1);
        x.unit(1, 4, 3, 2);
        due.refused("unit -1", Due.NO_SUCH, () -> x.serial(-1, 1));
        due.refused("unit 5", Due.NO_SUCH, () -> x.serial(5, 0));
        due.refused("number 0", Due.ARGUMENT, () -> x.serial(1, 0));
        due.refused("number -1", Due.ARGUMENT, () -> x.serial(1, -1));
        due.refused("number too great", Due.ARGUMENT, () -> x.serial(1, 10000000000L));
        due.refused("an int's worth of it", Due.ARGUMENT, () -> x.serial(1, 1L << 40));
        due.refused("five pieces", Due.STATE, () -> x.serial(0, 1));
        due.refused("two pieces", Due.STATE, () -> x.serial(4, 1));
        x.split(4, 1);
        x.serial(4, 8);
        due.refused("it has one", Due.STATE, () -> x.serial(4, 9));
        due.refused("it has this one", Due.STATE, () -> x.serial(4, 8));
        due.refused("it has one, number 0", Due.ARGUMENT, () -> x.serial(4, 0));
        x.lost(2, 1);
        x.state(3, 5);
        due.refused("a LOST one", Due.STATE, () -> x.serial(2, 7));
        due.refused("a GONE one", Due.STATE, () -> x.serial(3, 7));
        Due.leaveRows(x, 0);
        due.refused("no room for a row", Due.NO_ROOM, () -> x.serial(1, 7));
        due.is("nothing changed", x.packed(1) >> 20, 0);
        due.refused("the state before the room", Due.STATE, () -> x.serial(1, 8));
    }

    private static void lost() {
        UnitRows x = Due.withChain(6, 4);
        x.into(4, 1);
        x.state(3, 2);
        x.day(3);
        x.lost(1, 9);
        for (int u = 1; u < 5; u++) {
            due.is("state of " + u, x.told(u, 0), 4);
            due.is("place of " + u, x.told(u, 1), -1);
            due.is("container of " + u, x.told(u, 2), -1);
            due.is("depth of " + u, x.told(u, 6), 0);
            due.is("within " + u, x.told(u, 7), 0);
        }
        due.is("what it lay in", x.told(0, 0), 0);
        due.is("units that stand", x.count(1), 2);
        due.is("its row's kind", x.row(1, 2, 0), 9);
        due.is("its row's day", x.row(1, 2, 1), 3);
        due.is("its row's number", x.row(1, 2, 2), 9);
        due.refused("those within have no row", Due.NO_SUCH, () -> x.row(2, 2, 0));
        due.is("all rows", x.count(3), 6 + 4 + 1 + 1);
        for (int state = 0; state < 4; state++) {
            UnitRows y = inState(state);
            y.lost(0, 1);
            due.is("lost from state " + state, y.told(0, 0), 4);
        }
    }

    private static void lostRefuses() {
        UnitRows x = Due.withUnits(3);
        due.refused("unit -1", Due.NO_SUCH, () -> x.lost(-1, 1));
        due.refused("unit 3", Due.NO_SUCH, () -> x.lost(3, 0));
        due.refused("reason 0", Due.ARGUMENT, () -> x.lost(0, 0));
        due.refused("reason 10", Due.ARGUMENT, () -> x.lost(0, 10));
        x.lost(1, 1);
        x.state(2, 5);
        due.refused("a LOST one", Due.STATE, () -> x.lost(1, 1));
        due.refused("a GONE one", Due.STATE, () -> x.lost(2, 1));
        due.refused("a GONE one, reason 0", Due.ARGUMENT, () -> x.lost(2, 0));
        Due.leaveRows(x, 0);
        due.refused("no room for a row", Due.NO_ROOM, () -> x.lost(0, 1));
        due.is("nothing changed", x.told(0, 0), 0);
        due.refused("the state before the room", Due.STATE, () -> x.lost(1, 1));
    }

    private static void found() {
        UnitRows x = Due.withChain(2, 2);
        x.unit(0, 4, 3, 5);
        x.lost(0, 1);
        x.lost(2, 1);
        x.day(LAST);
        x.found(0, 15);
        int[] told = {1, 15, -1, 5, 1, 3, 1, 0};
        for (int what = 0; what < told.length; what++) {
            due.is("told(0, " + what + ")", x.told(0, what), told[what]);
        }
        due.is("its row's kind", x.row(0, 2, 0), 10);
        due.is("its row's day", x.row(0, 2, 1), LAST);
        due.is("its row's number", x.row(0, 2, 2), 15);
        due.is("what lay in it is LOST still", x.told(1, 0), 4);
        x.found(1, 0);
        due.is("found by itself", x.told(1, 1), 0);
        x.found(2, 4);
        due.is("HELD on its last day", x.told(2, 0), 1);
        x.lost(2, 1);
        due.is("LOST ones don't expire", x.day(LAST + 1), 0);
        due.is("LOST when its day is over", x.told(2, 0), 4);
        x.found(2, 4);
        due.is("EXPIRED when its day is over", x.told(2, 0), 3);
    }

    private static void foundRefuses() {
        UnitRows x = Due.withUnits(3);
        x.lost(1, 1);
        x.state(2, 5);
        due.refused("unit -1", Due.NO_SUCH, () -> x.found(-1, 0));
        due.refused("unit 3", Due.NO_SUCH, () -> x.found(3, 16));
        due.refused("place -1", Due.ARGUMENT, () -> x.found(1, -1));
        due.refused("place 16", Due.ARGUMENT, () -> x.found(1, 16));
        due.refused("a GOOD one", Due.STATE, () -> x.found(0, 0));
        due.refused("a GONE one", Due.STATE, () -> x.found(2, 0));
        due.refused("a GONE one at no place", Due.ARGUMENT, () -> x.found(2, -1));
        x.place(4, 1);
        due.refused("no room at the place", Due.NO_ROOM, () -> x.found(1, 4));
        due.refused("the state before the room", Due.STATE, () -> x.found(2, 4));
        Due.leaveRows(x, 0);
        due.refused("no room for a row", Due.NO_ROOM, () -> x.found(1, 0));
        due.is("nothing changed", x.told(1, 0), 4);
    }

    private static void day() {
        UnitRows x = Due.withLots();
        for (int i = 0; i < 7; i++) {
            x.unit(0, 0, 0, 1);
        }
        x.unit(1, 0, 0, 1);
        x.state(1, 1);
        x.state(2, 2);
        x.lost(3, 1);
        x.state(4, 5);
        x.into(6, 5);
        int rows = x.count(3);
        due.is("the same day", x.day(0), 0);
        due.is("the last day", x.day(LAST), 0);
        due.is("a day behind it", x.day(LAST + 1), 4);
        int[] state = {3, 3, 2, 4, 5, 3, 3, 0};
        for (int u = 0; u < state.length; u++) {
            due.is("state of " + u, x.told(u, 0), state[u]);
        }
        due.is("they lie where they lay", x.told(6, 2), 5);
        due.is("they have no rows", x.count(3), rows);
        due.is("the same day again", x.day(LAST + 1), 0);
        due.is("the greatest", x.day(1000), 0);
        due.is("the day", x.count(4), 1000);
        due.is("a lot of the last day is good", x.told(7, 0), 0);
    }

    private static void dayRefuses() {
        UnitRows x = Due.withLots();
        x.unit(0, 0, 0, 1);
        x.day(5);
        due.refused("day 4", Due.ARGUMENT, () -> x.day(4));
        due.refused("day -1", Due.ARGUMENT, () -> x.day(-1));
        due.refused("day 1001", Due.ARGUMENT, () -> x.day(1001));
        due.is("the day", x.count(4), 5);
        due.is("nothing expired", x.told(0, 0), 0);
    }

    private static void packed() {
        UnitRows x = new UnitRows();
        for (int i = 0; i < 16; i++) {
            x.lot(0, 1000);
        }
        x.unit(0, 0, 0, 1);
        x.unit(15, 0, 7, 1000);
        x.unit(9, 0, 5, 1);
        due.is("all least", x.packed(0), 0);
        due.is("lot 15, owner 7, 1000 pieces", x.packed(1), 15 + 16 * (7 + 8 * 999));
        x.state(1, 5);
        due.is("GONE", x.packed(1), 15 + 16 * (7 + 8 * (999 + 1024 * 5)));
        x.serial(2, 9999999999L);
        x.lost(2, 1);
        due.is("with a serial number", x.packed(2),
                9 + 16 * (5 + 8 * (1024L * (4 + 8 * 9999999999L))));
        due.refused("unit -1", Due.NO_SUCH, () -> x.packed(-1));
        due.refused("unit 3", Due.NO_SUCH, () -> x.packed(3));
        due.refused("unit 64", Due.NO_SUCH, () -> x.packed(64));
    }
}
