/** The sentences of promises 7 to 9: move, into, out. */
public final class PlacingTest {
    private static final Due due = new Due();

    public static void main(String[] args) {
        due.sentence(7, "A standing unit goes to another place", PlacingTest::move);
        due.sentence(7, "with all that is within it", PlacingTest::moveWithAllWithin);
        due.sentence(7, "out of what it lies in", PlacingTest::moveOutOfWhatItLiesIn);
        due.sentence(7, "IllegalStateException: not standing", PlacingTest::moveNotStanding);
        due.sentence(7, "or it is there and lies in nothing", PlacingTest::moveWhereItIs);
        due.sentence(7, "NoSuchElementException, IllegalArgumentException", PlacingTest::moveOutside);
        due.sentence(7, "UnsupportedOperationException", PlacingTest::moveNeedsRoom);
        due.sentence(8, "A unit is put into another one at its place", PlacingTest::into);
        due.sentence(8, "(out of what it lay in)", PlacingTest::intoFromAnother);
        due.sentence(8, "IllegalStateException: one is not standing", PlacingTest::intoNotStanding);
        due.sentence(8, "they are not at one place", PlacingTest::intoAtAnotherPlace);
        due.sentence(8, "it lies there already", PlacingTest::intoAlready);
        due.sentence(8, "it is the same", PlacingTest::intoItself);
        due.sentence(8, "or lies (by whatever) in it", PlacingTest::intoWhatLiesInIt);
        due.sentence(8, "or it would be too deep", PlacingTest::intoTooDeep);
        due.sentence(8, "too deep", PlacingTest::upwardChain);
        due.sentence(8, "NoSuchElementException", PlacingTest::intoNoUnit);
        due.sentence(8, "UnsupportedOperationException", PlacingTest::intoNeedsRoom);
        due.sentence(9, "It is taken out of what it lies in, and stands at the place itself.", PlacingTest::out);
        due.sentence(9, "IllegalStateException: it lies in nothing.", PlacingTest::outOfNothing);
        due.sentence(9, "NoSuchElementException", PlacingTest::outNoUnit);
        due.sentence(9, "UnsupportedOperationException", PlacingTest::outNeedsRoom);
        due.end();
    }

    private static void move() {
        UnitRows x = Due.withUnits(2);
        x.day(3);
        x.move(0, 15);
        due.is("its place", x.told(0, 1), 15);
        due.is("the other's place", x.told(1, 1), 4);
        due.hasRow("moved", x, 0, 1, 2, 3, 15);
        due.is("all rows", x.count(3), 3);
        x.move(0, 0);
        due.is("its place", x.told(0, 1), 0);
        x.move(0, 4);
        due.is("back again", x.at(4, 0), 0);
        for (int state = 0; state < 4; state++) {
            UnitRows y = Due.inState(state);
            y.move(0, 1);
            due.is("place in state " + state, y.told(0, 1), 1);
            due.is("state " + state, y.told(0, 0), state);
        }
    }

    private static void moveWithAllWithin() {
        UnitRows x = Due.withChain(6, 4);
        x.into(4, 1);
        x.move(1, 9);
        int[] place = {4, 9, 9, 9, 9, 4};
        int[] container = {-1, -1, 1, 2, 1, -1};
        int[] depth = {1, 1, 2, 3, 2, 1};
        int[] within = {0, 3, 1, 0, 0, 0};
        for (int u = 0; u < 6; u++) {
            due.is("place of " + u, x.told(u, 1), place[u]);
            due.is("container of " + u, x.told(u, 2), container[u]);
            due.is("depth of " + u, x.told(u, 6), depth[u]);
            due.is("within " + u, x.told(u, 7), within[u]);
        }
        due.refused("those that go along have no row", Due.NO_SUCH, () -> x.row(2, 2, 0));
        due.is("all rows", x.count(3), 6 + 4 + 1);
        UnitRows y = Due.withChain(5, 5);
        y.move(0, 9);
        due.is("the fifth goes along", y.told(4, 1), 9);
        due.is("5 deep still", y.told(4, 6), 5);
    }

    private static void moveOutOfWhatItLiesIn() {
        UnitRows x = Due.withChain(3, 3);
        x.place(4, 3);
        due.done("at the same place, though it is full", () -> x.move(1, 4));
        due.is("its container", x.told(1, 2), -1);
        due.is("its place", x.told(1, 1), 4);
        due.is("what is within stays within", x.told(2, 2), 1);
        due.hasRow("moved", x, 1, 2, 2, 0, 4);
        x.move(2, 5);
        due.is("its container, from another place", x.told(2, 2), -1);
        due.is("nothing lies in what it lay in", x.told(1, 7), 0);
    }

    private static void moveNotStanding() {
        UnitRows x = Due.withLostAndGone();
        due.leaves("a LOST one", Due.STATE, x, () -> x.move(1, 0));
        due.leaves("a GONE one", Due.STATE, x, () -> x.move(2, 0));
        due.refused("a LOST one where it was", Due.STATE, () -> x.move(1, 4));
        due.refused("a GONE one to a wrong place", Due.ARGUMENT, () -> x.move(2, -1));
    }

    private static void moveWhereItIs() {
        UnitRows x = Due.withChain(3, 2);
        due.leaves("an empty one", Due.STATE, x, () -> x.move(2, 4));
        due.leaves("one with another in it", Due.STATE, x, () -> x.move(0, 4));
        due.done("one in another", () -> x.move(1, 4));
        due.leaves("it lies in nothing now", Due.STATE, x, () -> x.move(1, 4));
    }

    private static void moveOutside() {
        UnitRows x = Due.withUnits(3);
        due.outside("unit", Due.NO_SUCH, 0, 2, n -> x.move(n, 0));
        due.outside("place", Due.ARGUMENT, 0, 15, n -> x.move(0, n));
        due.refused("no unit to no place", Due.NO_SUCH, () -> x.move(3, 16));
        due.inside("place", 0, 15, n -> x.move(0, n));
        due.inside("unit", 0, 2, n -> x.move(n, 1));
    }

    private static void moveNeedsRoom() {
        UnitRows x = Due.withChain(3, 3);
        x.place(7, 2);
        due.leaves("three where two may be", Due.NO_ROOM, x, () -> x.move(0, 7));
        due.done("two where two may be", () -> x.move(1, 7));
        due.leaves("one more", Due.NO_ROOM, x, () -> x.move(0, 7));
        UnitRows y = Due.withUnits(3);
        y.lost(1, 1);
        Due.leaveRows(y, 0);
        due.leaves("no row", Due.NO_ROOM, y, () -> y.move(0, 8));
        due.refused("where it is before that", Due.STATE, () -> y.move(0, 4));
        due.refused("a LOST one before that", Due.STATE, () -> y.move(1, 8));
    }

    private static void into() {
        UnitRows x = Due.withUnits(2);
        x.day(8);
        x.into(1, 0);
        due.tells("what was put in", x, 1, 0, 4, 0, 5, 1, 3, 2, 0);
        due.tells("the container", x, 0, 0, 4, -1, 5, 1, 3, 1, 1);
        due.hasRow("put in", x, 1, 1, 3, 8, 0);
        due.is("the container has no row of it", x.count(3), 3);
        UnitRows y = Due.withLots();
        y.unit(0, 6, 1, 1000);
        y.unit(1, 6, 2, 1);
        y.state(0, 2);
        y.day(11);
        due.done("of another lot, owner and state", () -> y.into(0, 1));
    }

    private static void intoFromAnother() {
        UnitRows x = Due.withChain(4, 3);
        x.into(2, 3);
        due.is("container", x.told(2, 2), 3);
        due.is("within the old one", x.told(1, 7), 0);
        due.is("only one row of it", x.count(3), 4 + 2 + 1);
        x.into(2, 1);
        due.done("to one above", () -> x.into(2, 0));
        due.is("container", x.told(2, 2), 0);
        due.is("two lie in it", x.told(0, 7), 2);
        due.done("and down again", () -> x.into(2, 1));
        due.is("depth", x.told(2, 6), 3);
    }

    private static void intoNotStanding() {
        UnitRows x = Due.withLostAndGone();
        due.leaves("a LOST one", Due.STATE, x, () -> x.into(1, 0));
        due.leaves("a GONE one", Due.STATE, x, () -> x.into(2, 0));
        due.leaves("into a LOST one", Due.STATE, x, () -> x.into(0, 1));
        due.leaves("into a GONE one", Due.STATE, x, () -> x.into(0, 2));
        due.refused("a LOST one into itself", Due.STATE, () -> x.into(1, 1));
        x.lost(0, 1);
        due.leaves("both LOST", Due.STATE, x, () -> x.into(0, 1));
        UnitRows y = Due.withLostAndGone();
        y.state(0, 5);
        due.leaves("both GONE", Due.STATE, y, () -> y.into(0, 2));
    }

    private static void intoAtAnotherPlace() {
        UnitRows x = Due.withChain(3, 2);
        x.move(2, 5);
        due.leaves("at another place", Due.STATE, x, () -> x.into(2, 0));
        due.leaves("the other way", Due.STATE, x, () -> x.into(0, 2));
        due.leaves("one in another", Due.STATE, x, () -> x.into(1, 2));
        x.move(0, 5);
        due.done("at one place now", () -> x.into(2, 1));
    }

    private static void intoAlready() {
        UnitRows x = Due.withChain(3, 3);
        due.leaves("where it lies", Due.STATE, x, () -> x.into(1, 0));
        due.leaves("where it lies, deeper", Due.STATE, x, () -> x.into(2, 1));
        due.done("where it lies by another only", () -> x.into(2, 0));
        due.leaves("it lies there now", Due.STATE, x, () -> x.into(2, 0));
    }

    private static void intoItself() {
        UnitRows x = Due.withChain(3, 2);
        for (int u = 0; u < 3; u++) {
            int same = u;
            due.leaves("unit " + u, Due.STATE, x, () -> x.into(same, same));
        }
    }

    private static void intoWhatLiesInIt() {
        UnitRows x = Due.withChain(4, 4);
        due.leaves("in it itself", Due.STATE, x, () -> x.into(0, 1));
        due.leaves("by another", Due.STATE, x, () -> x.into(0, 2));
        due.leaves("by two others", Due.STATE, x, () -> x.into(0, 3));
        due.leaves("one in the midst", Due.STATE, x, () -> x.into(1, 3));
        x.out(1);
        due.done("it lies in it no more", () -> x.into(0, 1));
        UnitRows y = Due.withChain(5, 5);
        due.leaves("by three others", Due.STATE, y, () -> y.into(0, 4));
        // In these two nothing would be too deep.
        UnitRows z = Due.withChain(2, 2);
        due.leaves("the only one in it", Due.STATE, z, () -> z.into(0, 1));
        UnitRows w = Due.withChain(3, 3);
        due.leaves("the only one in it, both in another", Due.STATE, w, () -> w.into(1, 2));
    }

    private static void intoTooDeep() {
        UnitRows x = Due.withChain(9, 5);
        due.leaves("6 deep", Due.STATE, x, () -> x.into(5, 4));
        due.done("5 deep", () -> x.into(5, 3));
        due.is("its depth", x.told(5, 6), 5);
        x.into(7, 6);
        due.leaves("what is within it would be 6 deep", Due.STATE, x, () -> x.into(6, 3));
        due.done("what is within it is 5 deep", () -> x.into(6, 2));
        due.is("its depth", x.told(7, 6), 5);
        due.leaves("a chain of five into an empty one", Due.STATE, x, () -> x.into(0, 8));
        due.done("a chain of four into an empty one", () -> x.into(1, 8));
        due.is("its depth", x.told(4, 6), 5);
        due.done("from the deepest to the top", () -> x.into(4, 8));
        due.is("its depth", x.told(4, 6), 2);
    }

    /** Unit 0 deepest of all: a unit's number says nothing of what it lies in. */
    private static void upwardChain() {
        UnitRows x = Due.withUnits(6);
        x.into(1, 2);
        x.into(0, 1);
        due.is("within the outermost", x.told(2, 7), 2);
        due.is("within the next", x.told(1, 7), 1);
        x.into(4, 5);
        x.into(3, 4);
        due.leaves("unit 0 would be 6 deep", Due.STATE, x, () -> x.into(2, 3));
        due.done("unit 0 is 5 deep", () -> x.into(2, 4));
        due.is("its depth", x.told(0, 6), 5);
        x.move(5, 0);
        due.is("unit 0 goes along", x.told(0, 1), 0);
        x.lost(4, 1);
        for (int unit = 0; unit < 5; unit++) {
            due.is("LOST " + unit, x.told(unit, 0), 4);
            due.is("in nothing " + unit, x.told(unit, 2), -1);
            due.is("nowhere " + unit, x.told(unit, 1), -1);
        }
        due.is("nothing lies in 5", x.told(5, 7), 0);
        x.found(0, 9);
        due.is("unit 0 is found in nothing", x.told(0, 6), 1);
    }

    private static void intoNoUnit() {
        UnitRows x = Due.withUnits(3);
        due.outside("unit", Due.NO_SUCH, 0, 2, n -> x.into(n, 1));
        due.outside("container", Due.NO_SUCH, 0, 2, n -> x.into(1, n));
        due.inside("unit", 0, 2, n -> x.into(n, 1));
        x.out(0);
        x.out(2);
        due.inside("container", 0, 2, n -> x.into(1, n));
    }

    private static void intoNeedsRoom() {
        UnitRows x = Due.withChain(3, 2);
        Due.leaveRows(x, 0);
        due.leaves("no row", Due.NO_ROOM, x, () -> x.into(2, 0));
        due.refused("the state before that", Due.STATE, () -> x.into(1, 0));
        UnitRows y = Due.withUnits(2);
        y.place(4, 2);
        due.done("a full place", () -> y.into(1, 0));
    }

    private static void out() {
        UnitRows x = Due.withChain(4, 4);
        x.day(2);
        x.out(1);
        due.tells("taken out", x, 1, 0, 4, -1, 5, 1, 3, 1, 2);
        due.is("what is within stays", x.told(3, 6), 3);
        due.is("within the old one", x.told(0, 7), 0);
        due.hasRow("taken out", x, 1, 2, 4, 2, 4);
        due.is("all rows", x.count(3), 4 + 3 + 1);
        x.out(3);
        due.is("from 3 deep to the place itself", x.told(3, 6), 1);
        due.is("at the place itself", x.at(4, 2), 3);
    }

    private static void outOfNothing() {
        UnitRows x = Due.withChain(3, 2);
        due.leaves("an empty one", Due.STATE, x, () -> x.out(2));
        due.leaves("one with another in it", Due.STATE, x, () -> x.out(0));
        x.out(1);
        due.leaves("taken out already", Due.STATE, x, () -> x.out(1));
        UnitRows y = Due.withChain(4, 2);
        y.into(3, 2);
        y.lost(0, 1);
        y.state(2, 5);
        for (int u = 0; u < 4; u++) {
            int unit = u;
            due.leaves("LOST or GONE with another", Due.STATE, y, () -> y.out(unit));
        }
    }

    private static void outNoUnit() {
        UnitRows x = Due.withUnits(3);
        x.into(0, 1);
        x.into(2, 1);
        due.outside("unit", Due.NO_SUCH, 0, 2, n -> x.out(n));
        due.inside("unit", 0, 2, n -> x.out(n));
    }

    private static void outNeedsRoom() {
        UnitRows x = Due.withChain(2, 2);
        Due.leaveRows(x, 0);
        due.leaves("no row", Due.NO_ROOM, x, () -> x.out(1));
        due.refused("the state before that", Due.STATE, () -> x.out(0));
        UnitRows y = Due.withChain(2, 2);
        y.place(4, 2);
        due.done("a full place", () -> y.out(1));
    }
}
