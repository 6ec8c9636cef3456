/** The sentences of promises 12 to 15 and 17: state, serial, lost, found, day. */
public final class StatesTest {
    private static final int LAST = 10;
    private static final long GREATEST = 9999999999L;
    private static final Due due = new Due();

    public static void main(String[] args) {
        due.sentence(12, "Its state becomes another one.", StatesTest::state);
        due.sentence(12, "IllegalArgumentException: no such state", StatesTest::noSuchState);
        due.sentence(12, "IllegalStateException: not by the told ways.", StatesTest::notByTheWays);
        due.sentence(12, "NoSuchElementException", StatesTest::stateNoUnit);
        due.sentence(12, "UnsupportedOperationException", StatesTest::stateNeedsRoom);
        due.sentence(13, "A serial number (1 .. 9999999999).", StatesTest::serialRange);
        due.sentence(13, "IllegalStateException: not standing", StatesTest::serialNotStanding);
        due.sentence(13, "more than one piece", StatesTest::serialOfPieces);
        due.sentence(13, "it has one", StatesTest::serialTwice);
        due.sentence(13, "or a unit that is not GONE has this one", StatesTest::serialInUse);
        due.sentence(13, "NoSuchElementException", StatesTest::serialNoUnit);
        due.sentence(13, "UnsupportedOperationException", StatesTest::serialNeedsRoom);
        due.sentence(14, "It is lost", StatesTest::lost);
        due.sentence(14, "for a reason 1 .. 9", StatesTest::lostReason);
        due.sentence(14, "IllegalStateException: LOST or GONE.", StatesTest::lostTwice);
        due.sentence(14, "NoSuchElementException", StatesTest::lostNoUnit);
        due.sentence(14, "UnsupportedOperationException", StatesTest::lostNeedsRoom);
        due.sentence(15, "It is found at a place.", StatesTest::found);
        due.sentence(15, "IllegalStateException: it is not LOST.", StatesTest::foundNotLost);
        due.sentence(15, "NoSuchElementException, IllegalArgumentException", StatesTest::foundOutside);
        due.sentence(15, "UnsupportedOperationException", StatesTest::foundNeedsRoom);
        due.sentence(17, "The day is this one", StatesTest::day);
        due.sentence(17, "how many units expired", StatesTest::howManyExpired);
        due.sentence(17, "IllegalArgumentException: it is before the day that is", StatesTest::dayBefore);
        due.sentence(17, "or above 1000", StatesTest::dayAbove);
        due.end();
    }

    private static void state() {
        UnitRows x = Due.withChain(3, 3);
        x.day(9);
        int[] states = {1, 0, 2, 1, 2, 5};
        for (int i = 0; i < states.length; i++) {
            x.state(2, states[i]);
            due.is("its state", x.told(2, 0), states[i]);
            due.hasRow("state", x, 2, 2 + i, 7, 9, states[i]);
        }
        x.state(0, 1);
        due.is("what lies in it stays as it is", x.told(1, 0), 0);
        due.is("and lies in it", x.told(1, 2), 0);
        x.state(1, 2);
        due.is("what it lies in stays as it is", x.told(0, 0), 1);
        due.tells("it lies where it lay", x, 1, 2, 4, 0, 5, 1, 3, 2, 0);
        x.state(0, 5);
        due.is("GONE with what lies in it", x.told(1, 0), 5);
        due.is("one row of it", x.count(3), 3 + 2 + 6 + 3);
    }

    private static void noSuchState() {
        UnitRows x = Due.withLostAndGone();
        due.outside("state", Due.ARGUMENT, 0, 5, n -> x.state(0, n));
        due.outside("state of a GONE one", Due.ARGUMENT, 0, 5, n -> x.state(2, n));
        due.is("its state", x.told(0, 0), 0);
        due.refused("0 is one, but it has it", Due.STATE, () -> x.state(0, 0));
        due.done("5 is one", () -> x.state(0, 5));
    }

    private static void notByTheWays() {
        boolean[][] leads = {
            {false, true, true, false, false, true},
            {true, false, true, false, false, true},
            {false, true, false, false, false, true},
            {false, false, false, false, false, true},
            {false, false, false, false, false, false},
            {false, false, false, false, false, false},
        };
        for (int from = 0; from < 6; from++) {
            for (int to = 0; to < 6; to++) {
                if (!leads[from][to]) {
                    int next = to;
                    UnitRows x = Due.inState(from);
                    due.leaves("from " + from + " to " + to, Due.STATE, x, () -> x.state(0, next));
                }
            }
        }
        UnitRows y = Due.inState(2);
        y.day(LAST + 1);
        due.leaves("from DAMAGED to HELD when its day is over", Due.STATE, y, () -> y.state(0, 1));
    }

    private static void stateNoUnit() {
        UnitRows x = Due.withUnits(3);
        due.outside("unit", Due.NO_SUCH, 0, 2, n -> x.state(n, 1));
        due.refused("no unit, no state", Due.NO_SUCH, () -> x.state(3, 6));
        due.inside("unit", 0, 2, n -> x.state(n, 1));
    }

    private static void stateNeedsRoom() {
        UnitRows x = Due.withChain(2, 2);
        Due.leaveRows(x, 0);
        due.leaves("to HELD", Due.NO_ROOM, x, () -> x.state(0, 1));
        due.leaves("to GONE", Due.NO_ROOM, x, () -> x.state(0, 5));
        due.refused("no way before that", Due.STATE, () -> x.state(0, 0));
        UnitRows y = Due.withChain(5, 5);
        Due.leaveRows(y, 1);
        due.done("five to GONE with one row", () -> y.state(0, 5));
    }

    private static void serialRange() {
        UnitRows x = Due.withLots();
        for (int i = 0; i < 4; i++) {
            x.unit(1, 0, 0, 1);
        }
        x.day(5);
        long[] outside = {0, -1, GREATEST + 1, -GREATEST, 1L << 40, Long.MIN_VALUE, Long.MIN_VALUE + 1,
            Long.MAX_VALUE, Integer.MIN_VALUE};
        for (long number : outside) {
            due.refused("number " + number, Due.ARGUMENT, () -> x.serial(0, number));
        }
        due.is("it has none", x.packed(0) >> 20, 0);
        x.serial(0, GREATEST);
        x.serial(1, 1);
        x.serial(2, 1 + (1L << 32));
        x.serial(3, 1L << 32);
        due.is("the greatest", x.packed(0) >> 20, GREATEST);
        due.is("the least", x.packed(1) >> 20, 1);
        due.is("one whose low half is the least", x.packed(2) >> 20, 4294967297L);
        due.is("one whose low half is 0", x.packed(3) >> 20, 4294967296L);
        due.hasRow("serial", x, 0, 1, 8, 5, 0);
        due.hasRow("serial", x, 1, 1, 8, 5, 0);
    }

    private static void serialNotStanding() {
        UnitRows x = Due.inState(4);
        due.leaves("a LOST one", Due.STATE, x, () -> x.serial(0, 7));
        due.refused("a LOST one, number 0", Due.ARGUMENT, () -> x.serial(0, 0));
        UnitRows y = Due.inState(5);
        due.leaves("a GONE one", Due.STATE, y, () -> y.serial(0, 7));
        for (int state = 0; state < 4; state++) {
            UnitRows z = Due.inState(state);
            due.done("in state " + state, () -> z.serial(0, 7));
        }
    }

    private static void serialOfPieces() {
        UnitRows x = Due.withLots();
        x.unit(1, 0, 0, 2);
        x.unit(1, 0, 0, 1000);
        due.leaves("two pieces", Due.STATE, x, () -> x.serial(0, 7));
        due.leaves("1000 pieces", Due.STATE, x, () -> x.serial(1, 7));
        due.refused("two pieces, number 0", Due.ARGUMENT, () -> x.serial(0, 0));
        x.split(0, 1);
        due.done("one piece stays", () -> x.serial(0, 7));
        due.done("one piece split off", () -> x.serial(2, 8));
    }

    private static void serialTwice() {
        UnitRows x = Due.inState(0);
        x.serial(0, 8);
        due.leaves("another one", Due.STATE, x, () -> x.serial(0, 9));
        due.leaves("this one", Due.STATE, x, () -> x.serial(0, 8));
        due.refused("number 0", Due.ARGUMENT, () -> x.serial(0, 0));
        x.lost(0, 1);
        x.found(0, 3);
        due.leaves("a found one has it still", Due.STATE, x, () -> x.serial(0, 9));
    }

    private static void serialInUse() {
        UnitRows x = Due.withLots();
        for (int i = 0; i < 4; i++) {
            x.unit(1, i, i, 1);
        }
        x.serial(1, 5);
        due.leaves("one with a greater number", Due.STATE, x, () -> x.serial(2, 5));
        due.leaves("one with a lesser number", Due.STATE, x, () -> x.serial(0, 5));
        x.lost(1, 1);
        due.leaves("one that a LOST one has", Due.STATE, x, () -> x.serial(2, 5));
        x.found(1, 0);
        x.state(1, 5);
        due.is("a GONE one has it still", x.packed(1) >> 20, 5);
        due.done("one that only a GONE one has", () -> x.serial(2, 5));
        due.leaves("another has it now", Due.STATE, x, () -> x.serial(3, 5));
        due.done("one that none has", () -> x.serial(3, 6));
        due.done("the least, though many have none", () -> x.serial(0, 1));
        x.unit(1, 0, 0, 1);
        due.leaves("one that unit 0 has", Due.STATE, x, () -> x.serial(4, 1));
    }

    private static void serialNoUnit() {
        UnitRows x = Due.withLots();
        for (int i = 0; i < 3; i++) {
            x.unit(1, 0, 0, 1);
        }
        due.outside("unit", Due.NO_SUCH, 0, 2, n -> x.serial(n, 1));
        due.refused("no unit, number 0", Due.NO_SUCH, () -> x.serial(3, 0));
        due.inside("unit", 0, 2, n -> x.serial(n, n + 1));
    }

    private static void serialNeedsRoom() {
        UnitRows x = Due.withUnits(1);
        x.unit(1, 4, 3, 1);
        Due.leaveRows(x, 0);
        due.leaves("no row", Due.NO_ROOM, x, () -> x.serial(1, 7));
        due.refused("five pieces before that", Due.STATE, () -> x.serial(0, 7));
    }

    private static void lost() {
        UnitRows x = Due.withChain(6, 4);
        x.into(4, 1);
        x.state(3, 2);
        x.day(3);
        x.lost(1, 9);
        for (int u = 1; u < 5; u++) {
            due.tells("LOST", x, u, 4, -1, -1, 5, 1, 3, 0, 0);
        }
        due.is("what it lay in", x.told(0, 0), 0);
        due.is("nothing lies in that", x.told(0, 7), 0);
        due.is("one beside", x.told(5, 0), 0);
        due.is("units that stand", x.count(1), 2);
        due.refused("those within have no row", Due.NO_SUCH, () -> x.row(2, 2, 0));
        due.is("all rows", x.count(3), 6 + 4 + 1 + 1);
    }

    private static void lostReason() {
        UnitRows x = Due.withUnits(2);
        due.outside("reason", Due.ARGUMENT, 1, 9, n -> x.lost(0, n));
        due.is("its state", x.told(0, 0), 0);
        x.day(3);
        x.lost(0, 1);
        x.lost(1, 9);
        due.hasRow("the least", x, 0, 1, 9, 3, 1);
        due.hasRow("the greatest", x, 1, 1, 9, 3, 9);
    }

    private static void lostTwice() {
        UnitRows x = Due.withLostAndGone();
        due.leaves("a LOST one", Due.STATE, x, () -> x.lost(1, 1));
        due.leaves("a GONE one", Due.STATE, x, () -> x.lost(2, 1));
        due.refused("a GONE one, reason 0", Due.ARGUMENT, () -> x.lost(2, 0));
        x.found(1, 4);
        due.done("a found one", () -> x.lost(1, 2));
        UnitRows y = Due.withChain(2, 2);
        y.lost(0, 1);
        due.leaves("one that was LOST with another", Due.STATE, y, () -> y.lost(1, 1));
    }

    private static void lostNoUnit() {
        UnitRows x = Due.withUnits(3);
        due.outside("unit", Due.NO_SUCH, 0, 2, n -> x.lost(n, 1));
        due.refused("no unit, reason 0", Due.NO_SUCH, () -> x.lost(3, 0));
        due.inside("unit", 0, 2, n -> x.lost(n, 1));
    }

    private static void lostNeedsRoom() {
        UnitRows x = Due.withChain(3, 2);
        x.lost(2, 1);
        Due.leaveRows(x, 0);
        due.leaves("no row", Due.NO_ROOM, x, () -> x.lost(0, 1));
        due.refused("a LOST one before that", Due.STATE, () -> x.lost(2, 1));
        UnitRows y = Due.withChain(5, 5);
        Due.leaveRows(y, 1);
        due.done("five LOST with one row", () -> y.lost(0, 1));
    }

    private static void found() {
        UnitRows x = Due.withChain(3, 2);
        x.into(2, 1);
        x.lost(1, 1);
        x.day(LAST);
        x.found(1, 15);
        due.tells("found", x, 1, 1, 15, -1, 5, 1, 3, 1, 0);
        due.hasRow("found", x, 1, 3, 10, LAST, 15);
        due.is("what lay in it is LOST still", x.told(2, 0), 4);
        x.found(2, 0);
        due.is("found by itself", x.told(2, 1), 0);
        due.is("it has its own row", x.row(2, 2, 0), 10);
        x.lost(2, 1);
        x.found(2, 4);
        due.is("found where it was", x.at(4, 1), 2);
    }

    private static void foundNotLost() {
        for (int state = 0; state < 6; state++) {
            if (state != 4) {
                UnitRows x = Due.inState(state);
                due.leaves("in state " + state, Due.STATE, x, () -> x.found(0, 1));
                due.refused("in state " + state + ", at no place", Due.ARGUMENT, () -> x.found(0, 16));
            }
        }
        UnitRows y = Due.inState(4);
        due.done("a LOST one", () -> y.found(0, 1));
        due.leaves("it is LOST no more", Due.STATE, y, () -> y.found(0, 2));
    }

    private static void foundOutside() {
        UnitRows x = Due.withUnits(3);
        for (int u = 0; u < 3; u++) {
            x.lost(u, 1);
        }
        due.outside("unit", Due.NO_SUCH, 0, 2, n -> x.found(n, 0));
        due.outside("place", Due.ARGUMENT, 0, 15, n -> x.found(0, n));
        due.refused("no unit at no place", Due.NO_SUCH, () -> x.found(3, 16));
        due.inside("unit", 0, 2, n -> x.found(n, 15));
        due.done("place 0", () -> x.found(1, 0));
    }

    private static void foundNeedsRoom() {
        UnitRows x = Due.withLostAndGone();
        x.place(4, 1);
        due.leaves("a full place", Due.NO_ROOM, x, () -> x.found(1, 4));
        due.refused("a GONE one before that", Due.STATE, () -> x.found(2, 4));
        x.place(4, 2);
        due.done("space for one more", () -> x.found(1, 4));
        UnitRows y = Due.withLostAndGone();
        y.place(9, 0);
        due.leaves("a place that takes none", Due.NO_ROOM, y, () -> y.found(1, 9));
        Due.leaveRows(y, 0);
        due.leaves("no row", Due.NO_ROOM, y, () -> y.found(1, 0));
        UnitRows z = Due.withLots();
        z.rows(1);
        z.unit(1, 0, 0, 1);
        z.lost(0, 1);
        due.done("no room for new units", () -> z.found(0, 0));
    }

    private static void day() {
        UnitRows x = Due.withLots();
        x.unit(1, 0, 0, 1);
        int[] days = {0, 1, 1, 500, 999, 1000, 1000};
        for (int i = 0; i < days.length; i++) {
            x.day(days[i]);
            due.is("the day", x.count(4), days[i]);
            x.weigh(0, 1);
            due.is("a row's day", x.row(0, 1 + i, 1), days[i]);
        }
        due.is("earlier rows have theirs", x.row(0, 1, 1), 0);
    }

    private static void howManyExpired() {
        UnitRows x = Due.withLots();
        due.is("of none", x.day(0), 0);
        for (int i = 0; i < 7; i++) {
            x.unit(0, 0, 0, 1);
        }
        x.unit(1, 0, 0, 1);
        x.state(1, 1);
        x.state(2, 2);
        x.lost(3, 1);
        x.state(4, 5);
        x.into(6, 5);
        int rows = x.count(3);
        due.is("the last day", x.day(LAST), 0);
        due.is("a day behind it", x.day(LAST + 1), 4);
        int[] state = {3, 3, 2, 4, 5, 3, 3, 0};
        for (int u = 0; u < state.length; u++) {
            due.is("state of " + u, x.told(u, 0), state[u]);
        }
        due.is("they lie where they lay", x.told(6, 2), 5);
        due.is("they have no rows", x.count(3), rows);
        due.is("the same day again", x.day(LAST + 1), 0);
        x.found(3, 0);
        x.unit(0, 0, 0, 1);
        due.is("what was EXPIRED from the start is not counted", x.day(LAST + 2), 0);
        due.is("the greatest day", x.day(1000), 0);
        UnitRows y = Due.withLots();
        y.place(0, 64);
        for (int i = 0; i < 64; i++) {
            y.unit(0, 0, 0, 1);
        }
        due.is("all 64, days later", y.day(1000), 64);
    }

    private static void dayBefore() {
        UnitRows x = Due.inState(0);
        x.day(5);
        due.leaves("day 4", Due.ARGUMENT, x, () -> x.day(4));
        due.leaves("day 0", Due.ARGUMENT, x, () -> x.day(0));
        due.leaves("day -1", Due.ARGUMENT, x, () -> x.day(-1));
        due.leaves("the least", Due.ARGUMENT, x, () -> x.day(Integer.MIN_VALUE));
        due.done("the day that is", () -> x.day(5));
        x.day(1000);
        due.leaves("999 after 1000", Due.ARGUMENT, x, () -> x.day(999));
        UnitRows y = new UnitRows();
        due.refused("-1 in a new object", Due.ARGUMENT, () -> y.day(-1));
    }

    private static void dayAbove() {
        UnitRows x = Due.inState(0);
        due.leaves("1001", Due.ARGUMENT, x, () -> x.day(1001));
        due.leaves("65536", Due.ARGUMENT, x, () -> x.day(65536));
        due.leaves("the greatest", Due.ARGUMENT, x, () -> x.day(Integer.MAX_VALUE));
        due.done("1000", () -> x.day(1000));
        due.refused("1001 after 1000", Due.ARGUMENT, () -> x.day(1001));
    }
}
