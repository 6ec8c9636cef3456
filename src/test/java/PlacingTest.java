/** Promises 7 to 9: move, into, out. */
public final class PlacingTest {
    private static final Due due = new Due();

    public static void main(String[] args) {
        move();
        moveWithAllWithin();
        moveOutOfWhatItLiesIn();
        moveNeedsRoom();
        moveRefuses();
        into();
        intoFromAnother();
        intoDepth();
        intoRefuses();
        upwardChain();
        out();
        due.end();
    }

    private static void move() {
        UnitRows x = Due.withUnits(2);
        x.day(3);
        x.move(0, 15);
        due.is("its place", x.told(0, 1), 15);
        due.is("the other's place", x.told(1, 1), 4);
        due.is("its row's kind", x.row(0, 1, 0), 2);
        due.is("its row's day", x.row(0, 1, 1), 3);
        due.is("its row's number", x.row(0, 1, 2), 15);
        due.is("all rows", x.count(3), 3);
        x.state(1, 2);
        x.move(1, 0);
        due.is("DAMAGED ones move", x.told(1, 1), 0);
    }

    private static void moveWithAllWithin() {
        UnitRows x = Due.withChain(6, 4);
        x.into(4, 1);
        x.move(1, 9);
        int[] place = {4, 9, 9, 9, 9, 4};
        int[] container = {-1, -1, 1, 2, 1, -1};
        int[] depth = {1, 1, 2, 3, 2, 1};
        int[] within = {0, 3, 1, 0, 0, 0};
        for (int u = 0; u < 6; u++) {
            due.is("place of " + u, x.told(u, 1), place[u]);
            due.is("container of " + u, x.told(u, 2), container[u]);
            due.is("depth of " + u, x.told(u, 6), depth[u]);
            due.is("within " + u, x.told(u, 7), within[u]);
        }
        due.refused("those that go along have no row", Due.NO_SUCH, () -> x.row(2, 2, 0));
        due.is("all rows", x.count(3), 6 + 4 + 1);
    }

    private static void moveOutOfWhatItLiesIn() {
        UnitRows x = Due.withChain(3, 3);
        x.place(4, 3);
        x.move(1, 4);
        due.is("out at the same place, though it is full", x.told(1, 2), -1);
        due.is("its place", x.told(1, 1), 4);
        due.is("what is within stays within", x.told(2, 2), 1);
        due.is("its row is moved", x.row(1, 2, 0), 2);
        due.is("its row's number", x.row(1, 2, 2), 4);
        due.refused("again", Due.STATE, () -> x.move(1, 4));
    }

    private static void moveNeedsRoom() {
        UnitRows x = Due.withChain(3, 3);
        x.place(7, 2);
        due.refused("three where two may be", Due.NO_ROOM, () -> x.move(0, 7));
        due.is("nothing moved", x.told(0, 1), 4);
        x.move(1, 7);
        due.is("two where two may be", x.told(2, 1), 7);
        due.refused("one more", Due.NO_ROOM, () -> x.move(0, 7));
        Due.leaveRows(x, 0);
        due.refused("no room for a row", Due.NO_ROOM, () -> x.move(0, 8));
        due.is("nothing moved", x.told(0, 1), 4);
        due.refused("the state before the room", Due.STATE, () -> x.move(0, 4));
    }

    private static void moveRefuses() {
        UnitRows x = Due.withUnits(3);
        due.refused("unit -1", Due.NO_SUCH, () -> x.move(-1, 0));
        due.refused("unit 3", Due.NO_SUCH, () -> x.move(3, 0));
        due.refused("unit 3 before a wrong place", Due.NO_SUCH, () -> x.move(3, 99));
        due.refused("place -1", Due.ARGUMENT, () -> x.move(0, -1));
        due.refused("place 16", Due.ARGUMENT, () -> x.move(0, 16));
        due.refused("where it is", Due.STATE, () -> x.move(0, 4));
        x.lost(1, 1);
        x.state(2, 5);
        due.refused("a LOST one", Due.STATE, () -> x.move(1, 0));
        due.refused("a GONE one", Due.STATE, () -> x.move(2, 0));
        due.refused("a GONE one to a wrong place", Due.ARGUMENT, () -> x.move(2, -1));
        due.is("all rows", x.count(3), 5);
    }

    private static void into() {
        UnitRows x = Due.withUnits(2);
        x.day(8);
        x.into(1, 0);
        due.is("container", x.told(1, 2), 0);
        due.is("place", x.told(1, 1), 4);
        due.is("depth", x.told(1, 6), 2);
        due.is("depth of the container", x.told(0, 6), 1);
        due.is("within the container", x.told(0, 7), 1);
        due.is("its row's kind", x.row(1, 1, 0), 3);
        due.is("its row's day", x.row(1, 1, 1), 8);
        due.is("its row's number", x.row(1, 1, 2), 0);
        due.is("all rows", x.count(3), 3);
    }

    private static void intoFromAnother() {
        UnitRows x = Due.withChain(4, 3);
        x.into(2, 3);
        due.is("container", x.told(2, 2), 3);
        due.is("within the old one", x.told(1, 7), 0);
        due.is("only one row of it", x.count(3), 4 + 2 + 1);
        x.into(1, 3);
        x.into(2, 0);
        due.is("to one above", x.told(2, 2), 0);
        due.refused("it lies there already", Due.STATE, () -> x.into(2, 0));
    }

    private static void intoDepth() {
        UnitRows x = Due.withChain(9, 5);
        due.is("the fifth is 5 deep", x.told(4, 6), 5);
        due.is("four lie in the first", x.told(0, 7), 4);
        due.refused("6 deep", Due.STATE, () -> x.into(5, 4));
        x.into(5, 3);
        due.is("beside the fifth", x.told(5, 6), 5);
        x.into(7, 6);
        due.refused("what is within it would be 6 deep", Due.STATE, () -> x.into(6, 3));
        x.into(6, 2);
        due.is("what is within it is 5 deep", x.told(7, 6), 5);
        due.refused("a chain of five into an empty one", Due.STATE, () -> x.into(0, 8));
        due.is("all within the first", x.told(0, 7), 7);
        x.into(1, 8);
        due.is("a chain of four into an empty one", x.told(4, 6), 5);
        x.into(4, 8);
        due.is("from the deepest to the top", x.told(4, 6), 2);
    }

    private static void intoRefuses() {
        UnitRows x = Due.withChain(6, 3);
        due.refused("unit -1", Due.NO_SUCH, () -> x.into(-1, 0));
        due.refused("unit 6", Due.NO_SUCH, () -> x.into(6, 0));
        due.refused("container -1", Due.NO_SUCH, () -> x.into(3, -1));
        due.refused("container 6", Due.NO_SUCH, () -> x.into(3, 6));
        due.refused("into itself", Due.STATE, () -> x.into(3, 3));
        due.refused("into what lies in it", Due.STATE, () -> x.into(0, 1));
        due.refused("into what lies in it by another", Due.STATE, () -> x.into(0, 2));
        due.refused("where it lies already", Due.STATE, () -> x.into(1, 0));
        x.move(3, 5);
        due.refused("another place", Due.STATE, () -> x.into(3, 0));
        due.refused("another place, the other way", Due.STATE, () -> x.into(2, 3));
        x.lost(4, 1);
        x.state(5, 5);
        due.refused("a LOST one", Due.STATE, () -> x.into(4, 0));
        due.refused("a GONE one", Due.STATE, () -> x.into(5, 0));
        due.refused("into a LOST one", Due.STATE, () -> x.into(2, 4));
        due.refused("into a GONE one", Due.STATE, () -> x.into(2, 5));
        due.refused("a LOST one into itself", Due.STATE, () -> x.into(4, 4));
        x.lost(3, 1);
        due.refused("both LOST", Due.STATE, () -> x.into(3, 4));
        Due.leaveRows(x, 0);
        due.refused("no room for a row", Due.NO_ROOM, () -> x.into(2, 0));
        due.is("nothing changed", x.told(2, 2), 1);
        due.refused("the state before the room", Due.STATE, () -> x.into(2, 1));
    }

    /** Unit 0 deepest of all: a unit's number says nothing of what it lies in. */
    private static void upwardChain() {
        UnitRows x = Due.withUnits(6);
        x.into(1, 2);
        x.into(0, 1);
        due.is("within the outermost", x.told(2, 7), 2);
        due.is("within the next", x.told(1, 7), 1);
        x.into(4, 5);
        x.into(3, 4);
        due.refused("unit 0 would be 6 deep", Due.STATE, () -> x.into(2, 3));
        due.refused("unit 0 holds nothing, unit 1 holds it", Due.STATE, () -> x.join(1, 3));
        x.into(2, 4);
        due.is("unit 0 is 5 deep", x.told(0, 6), 5);
        x.move(5, 0);
        due.is("unit 0 goes along", x.told(0, 1), 0);
        x.lost(4, 1);
        for (int unit = 0; unit < 5; unit++) {
            due.is("LOST " + unit, x.told(unit, 0), 4);
            due.is("in nothing " + unit, x.told(unit, 2), -1);
            due.is("nowhere " + unit, x.told(unit, 1), -1);
        }
        due.is("nothing lies in 5", x.told(5, 7), 0);
        x.found(0, 9);
        due.is("unit 0 is found in nothing", x.told(0, 6), 1);
    }

    private static void out() {
        UnitRows x = Due.withChain(4, 4);
        x.day(2);
        x.out(1);
        due.is("container", x.told(1, 2), -1);
        due.is("place", x.told(1, 1), 4);
        due.is("depth", x.told(1, 6), 1);
        due.is("what is within stays", x.told(3, 6), 3);
        due.is("within the old one", x.told(0, 7), 0);
        due.is("its row's kind", x.row(1, 2, 0), 4);
        due.is("its row's day", x.row(1, 2, 1), 2);
        due.is("its row's number", x.row(1, 2, 2), 4);
        due.is("all rows", x.count(3), 4 + 3 + 1);
        x.out(3);
        due.is("from 3 deep to the place itself", x.told(3, 6), 1);
        due.refused("unit -1", Due.NO_SUCH, () -> x.out(-1));
        due.refused("unit 4", Due.NO_SUCH, () -> x.out(4));
        due.refused("lies in nothing", Due.STATE, () -> x.out(1));
        x.lost(1, 1);
        due.refused("a LOST one", Due.STATE, () -> x.out(1));
        due.refused("one that was lost with it", Due.STATE, () -> x.out(2));
        x.into(3, 0);
        Due.leaveRows(x, 0);
        due.refused("no room for a row", Due.NO_ROOM, () -> x.out(3));
        due.is("nothing changed", x.told(3, 2), 0);
    }
}
