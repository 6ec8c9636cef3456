/** The sentences of promises 10, 11 and 16: split, join, weigh. */
public final class PiecesTest {
    private static final Due due = new Due();

    public static void main(String[] args) {
        due.sentence(10, "So many of its pieces (1 and up, fewer than it has)", PiecesTest::splitPieces);
        due.sentence(10, "become a new unit beside it, in what it lies in", PiecesTest::splitBeside);
        due.sentence(10, "of the same lot, owner and state", PiecesTest::splitSame);
        due.sentence(10, "its number", PiecesTest::splitNumber);
        due.sentence(10, "IllegalStateException: not standing", PiecesTest::splitNotStanding);
        due.sentence(10, "something lies in it", PiecesTest::splitOfAContainer);
        due.sentence(10, "or it has a serial number", PiecesTest::splitOfOneWithSerial);
        due.sentence(10, "NoSuchElementException, IllegalArgumentException", PiecesTest::splitOutside);
        due.sentence(10, "UnsupportedOperationException", PiecesTest::splitNeedsRoom);
        due.sentence(11, "b's pieces come to a", PiecesTest::join);
        due.sentence(11, "b is GONE (its own number of pieces stays as it was)", PiecesTest::joinedIsGone);
        due.sentence(11, "IllegalStateException: they are the same", PiecesTest::joinItself);
        due.sentence(11, "not both standing", PiecesTest::joinNotStanding);
        due.sentence(11, "not of one lot", PiecesTest::joinOfTwoLots);
        due.sentence(11, "owner", PiecesTest::joinOfTwoOwners);
        due.sentence(11, "state", PiecesTest::joinOfTwoStates);
        due.sentence(11, "place", PiecesTest::joinOfTwoPlaces);
        due.sentence(11, "and container", PiecesTest::joinOfTwoContainers);
        due.sentence(11, "something lies in one", PiecesTest::joinOfContainers);
        due.sentence(11, "one has a serial number", PiecesTest::joinOfOneWithSerial);
        due.sentence(11, "or together they would have more than 1000", PiecesTest::joinTooMany);
        due.sentence(11, "NoSuchElementException", PiecesTest::joinNoUnit);
        due.sentence(11, "UnsupportedOperationException", PiecesTest::joinNeedsRoom);
        due.sentence(16, "It was weighed (1 .. 100000000 grams)", PiecesTest::weighGrams);
        due.sentence(16, "that less what its pieces weigh", PiecesTest::weigh);
        due.sentence(16, "(of what lies in it nothing)", PiecesTest::weighWithOthersInIt);
        due.sentence(16, "IllegalStateException: not standing.", PiecesTest::weighNotStanding);
        due.sentence(16, "NoSuchElementException", PiecesTest::weighNoUnit);
        due.sentence(16, "UnsupportedOperationException", PiecesTest::weighNeedsRoom);
        due.end();
    }

    private static void splitPieces() {
        UnitRows x = Due.withLots();
        x.unit(1, 0, 0, 1000);
        due.outside("pieces of 1000", Due.ARGUMENT, 1, 999, n -> x.split(0, n));
        due.is("pieces after refusals", x.told(0, 3), 1000);
        x.split(0, 999);
        due.is("what stays of 1000", x.told(0, 3), 1);
        due.is("what is new", x.told(1, 3), 999);
        due.outside("pieces of 1", Due.ARGUMENT, 1, 0, n -> x.split(0, n));
        x.split(1, 1);
        due.is("what stays of 999", x.told(1, 3), 998);
        due.is("what is new", x.told(2, 3), 1);
        x.unit(1, 0, 0, 2);
        due.refused("2 of 2", Due.ARGUMENT, () -> x.split(3, 2));
        due.done("1 of 2", () -> x.split(3, 1));
        due.refused("1 of 1", Due.ARGUMENT, () -> x.split(3, 1));
        due.is("all pieces", x.sum(2, 0), 1002);
    }

    private static void splitBeside() {
        UnitRows x = Due.withChain(3, 3);
        x.move(0, 15);
        x.split(2, 1);
        due.is("its container", x.told(3, 2), 1);
        due.is("its place", x.told(3, 1), 15);
        due.is("its depth", x.told(3, 6), 3);
        due.is("within the first", x.told(0, 7), 3);
        UnitRows y = Due.withUnits(1);
        y.split(0, 1);
        due.is("beside one in nothing", y.told(1, 2), -1);
        due.is("at its place", y.at(4, 1), 1);
        UnitRows z = Due.withChain(5, 5);
        due.done("one 5 deep", () -> z.split(4, 1));
        due.is("5 deep too", z.told(5, 6), 5);
    }

    private static void splitSame() {
        for (int state = 0; state < 4; state++) {
            UnitRows x = Due.withLots();
            x.unit(0, 2, 6, 9);
            if (state == 3) {
                x.day(11);
            } else if (state > 0) {
                x.state(0, state);
            }
            x.split(0, 4);
            due.tells("split in state " + state, x, 1, state, 2, -1, 4, 0, 6, 1, 0);
            due.is("its good", x.weigh(1, 1000), 600);
        }
        UnitRows y = Due.withLots();
        y.unit(0, 2, 6, 9);
        y.split(0, 4);
        due.is("their last day is one", y.day(10), 0);
        due.is("both expire", y.day(11), 2);
    }

    private static void splitNumber() {
        UnitRows x = Due.withUnits(3);
        x.day(6);
        due.is("the new unit", x.split(1, 2), 3);
        due.hasRow("what stays", x, 1, 1, 5, 6, 3);
        due.hasRow("what is new", x, 3, 0, 1, 6, 4);
        due.is("all rows", x.count(3), 5);
        due.is("of the new one", x.split(3, 1), 4);
        due.is("units that stand", x.count(1), 5);
    }

    private static void splitNotStanding() {
        UnitRows x = Due.withLostAndGone();
        due.leaves("a LOST one", Due.STATE, x, () -> x.split(1, 1));
        due.leaves("a GONE one", Due.STATE, x, () -> x.split(2, 1));
        due.refused("a LOST one, wrong pieces", Due.ARGUMENT, () -> x.split(1, 0));
        due.refused("a GONE one, wrong pieces", Due.ARGUMENT, () -> x.split(2, 5));
        UnitRows y = Due.withUnits(2);
        y.join(0, 1);
        due.refused("a joined one", Due.STATE, () -> y.split(1, 4));
        due.refused("a joined one, all that it had", Due.ARGUMENT, () -> y.split(1, 5));
    }

    private static void splitOfAContainer() {
        UnitRows x = Due.withChain(3, 3);
        due.leaves("one lies in it", Due.STATE, x, () -> x.split(1, 1));
        due.leaves("two lie in it", Due.STATE, x, () -> x.split(0, 1));
        due.refused("wrong pieces before that", Due.ARGUMENT, () -> x.split(0, 5));
        due.done("it lies in others", () -> x.split(2, 1));
        x.move(1, 5);
        due.done("nothing lies in it now", () -> x.split(0, 1));
    }

    /** A unit with a serial number has one piece, of which none can be split: that comes first. */
    private static void splitOfOneWithSerial() {
        UnitRows x = Due.withLots();
        x.unit(1, 4, 3, 1);
        x.serial(0, 5);
        due.leaves("one piece", Due.ARGUMENT, x, () -> x.split(0, 1));
        due.leaves("no piece", Due.ARGUMENT, x, () -> x.split(0, 0));
    }

    private static void splitOutside() {
        UnitRows x = Due.withUnits(3);
        due.outside("unit", Due.NO_SUCH, 0, 2, n -> x.split(n, 1));
        due.outside("pieces", Due.ARGUMENT, 1, 4, n -> x.split(0, n));
        due.refused("no unit, wrong pieces", Due.NO_SUCH, () -> x.split(3, 0));
        due.inside("unit", 0, 2, n -> x.split(n, 1));
    }

    private static void splitNeedsRoom() {
        UnitRows x = Due.withUnits(2);
        x.place(4, 2);
        due.leaves("a full place", Due.NO_ROOM, x, () -> x.split(0, 1));
        x.place(4, 3);
        due.done("space for one more", () -> x.split(0, 1));
        UnitRows y = Due.withUnits(2);
        Due.leaveRows(y, 1);
        due.leaves("room for one row of two", Due.NO_ROOM, y, () -> y.split(0, 1));
        UnitRows z = Due.withLots();
        z.rows(1);
        z.unit(0, 0, 0, 2);
        due.leaves("no room for units", Due.NO_ROOM, z, () -> z.split(0, 1));
        UnitRows w = Due.withUnits(2);
        Due.leaveRows(w, 2);
        due.is("room for both rows", w.split(0, 1), 2);
        due.is("all rows", w.count(3), 400);
        due.refused("something wrong before the room", Due.ARGUMENT, () -> w.split(0, 4));
    }

    private static void join() {
        UnitRows x = Due.withChain(4, 2);
        x.into(2, 0);
        x.day(4);
        x.join(1, 2);
        due.tells("what stays", x, 1, 0, 4, 0, 10, 1, 3, 2, 0);
        due.hasRow("what stays", x, 1, 2, 6, 4, 2);
        due.is("within the container", x.told(0, 7), 1);
        due.is("all rows", x.count(3), 4 + 2 + 2);
        UnitRows y = Due.withUnits(3);
        y.join(2, 0);
        y.join(1, 2);
        due.is("a may have a greater number than b, or a lesser", y.told(1, 3), 15);
    }

    private static void joinedIsGone() {
        UnitRows x = Due.withLots();
        x.unit(0, 0, 0, 600);
        x.unit(0, 0, 0, 40);
        x.day(4);
        x.join(1, 0);
        due.tells("joined", x, 0, 5, -1, -1, 600, 0, 0, 0, 0);
        due.hasRow("joined", x, 0, 1, 6, 4, 1);
        due.is("pieces together", x.told(1, 3), 640);
        due.is("pieces at the place", x.sum(1, 0), 640);
        due.is("units that stand", x.count(1), 1);
        due.refused("it is found no more", Due.STATE, () -> x.found(0, 0));
        UnitRows y = Due.withChain(3, 2);
        y.into(2, 0);
        y.join(1, 2);
        due.is("it lies in nothing", y.told(2, 2), -1);
    }

    private static void joinItself() {
        UnitRows x = Due.withUnits(2);
        due.leaves("unit 0", Due.STATE, x, () -> x.join(0, 0));
        due.leaves("unit 1", Due.STATE, x, () -> x.join(1, 1));
    }

    private static void joinNotStanding() {
        UnitRows x = Due.withLostAndGone();
        x.unit(1, 4, 3, 5);
        x.lost(3, 1);
        due.leaves("a is LOST", Due.STATE, x, () -> x.join(1, 0));
        due.leaves("b is LOST", Due.STATE, x, () -> x.join(0, 1));
        due.leaves("a is GONE", Due.STATE, x, () -> x.join(2, 0));
        due.leaves("b is GONE", Due.STATE, x, () -> x.join(0, 2));
        due.leaves("both are LOST", Due.STATE, x, () -> x.join(1, 3));
        x.state(0, 5);
        due.leaves("both are GONE", Due.STATE, x, () -> x.join(0, 2));
    }

    private static void joinOfTwoLots() {
        UnitRows x = new UnitRows();
        x.lot(2, 10);
        x.lot(2, 10);
        x.unit(0, 4, 3, 5);
        x.unit(1, 4, 3, 5);
        x.unit(1, 4, 3, 5);
        due.leaves("lots of one good and one last day", Due.STATE, x, () -> x.join(0, 1));
        due.done("one lot", () -> x.join(1, 2));
    }

    private static void joinOfTwoOwners() {
        UnitRows x = Due.withUnits(2);
        x.unit(1, 4, 2, 5);
        due.leaves("owners 3 and 2", Due.STATE, x, () -> x.join(0, 2));
        due.done("owner 3", () -> x.join(0, 1));
    }

    private static void joinOfTwoStates() {
        for (int a = 0; a < 3; a++) {
            for (int b = 0; b < 3; b++) {
                UnitRows x = Due.withUnits(2);
                if (a > 0) {
                    x.state(0, a);
                }
                if (b > 0) {
                    x.state(1, b);
                }
                due.refused("states " + a + " and " + b, a == b ? null : Due.STATE, () -> x.join(0, 1));
                due.is("pieces", x.told(0, 3), a == b ? 10 : 5);
            }
        }
        UnitRows y = Due.withLots();
        for (int i = 0; i < 3; i++) {
            y.unit(0, 0, 0, i + 1);
        }
        y.state(2, 2);
        y.day(11);
        due.refused("EXPIRED and DAMAGED", Due.STATE, () -> y.join(0, 2));
        due.done("both EXPIRED", () -> y.join(0, 1));
        due.is("pieces", y.told(0, 3), 3);
    }

    private static void joinOfTwoPlaces() {
        UnitRows x = Due.withUnits(2);
        x.move(1, 5);
        due.leaves("places 4 and 5", Due.STATE, x, () -> x.join(0, 1));
        x.move(0, 5);
        due.done("place 5", () -> x.join(0, 1));
    }

    private static void joinOfTwoContainers() {
        UnitRows x = Due.withChain(5, 2);
        due.leaves("b lies in one, a in none", Due.STATE, x, () -> x.join(2, 1));
        due.leaves("a lies in one, b in none", Due.STATE, x, () -> x.join(1, 2));
        x.into(3, 2);
        due.leaves("each in another one", Due.STATE, x, () -> x.join(1, 3));
        x.into(3, 0);
        due.done("both in one", () -> x.join(1, 3));
        due.done("both in nothing", () -> x.join(2, 4));
    }

    private static void joinOfContainers() {
        UnitRows x = Due.withChain(4, 2);
        due.leaves("something lies in a", Due.STATE, x, () -> x.join(0, 2));
        due.leaves("something lies in b", Due.STATE, x, () -> x.join(2, 0));
        due.leaves("b lies in a", Due.STATE, x, () -> x.join(0, 1));
        due.leaves("a lies in b", Due.STATE, x, () -> x.join(1, 0));
        x.into(3, 2);
        due.leaves("something lies in both", Due.STATE, x, () -> x.join(0, 2));
        x.out(1);
        x.out(3);
        due.done("nothing lies in them now", () -> x.join(0, 2));
    }

    private static void joinOfOneWithSerial() {
        UnitRows x = Due.withLots();
        for (int i = 0; i < 4; i++) {
            x.unit(1, 6, 3, 1);
        }
        x.serial(0, 5);
        due.leaves("a has one", Due.STATE, x, () -> x.join(0, 1));
        due.leaves("b has one", Due.STATE, x, () -> x.join(1, 0));
        x.serial(3, 9999999999L);
        due.leaves("both have one", Due.STATE, x, () -> x.join(0, 3));
        due.done("none has one", () -> x.join(1, 2));
    }

    private static void joinTooMany() {
        UnitRows x = Due.withLots();
        x.unit(1, 4, 3, 600);
        x.unit(1, 4, 3, 401);
        x.unit(1, 4, 3, 1);
        x.unit(1, 4, 3, 1000);
        due.leaves("1001", Due.STATE, x, () -> x.join(0, 1));
        due.leaves("1001 the other way", Due.STATE, x, () -> x.join(1, 0));
        due.leaves("1000 and 1", Due.STATE, x, () -> x.join(3, 2));
        x.split(1, 1);
        due.done("1000", () -> x.join(1, 0));
        due.is("pieces", x.told(1, 3), 1000);
        due.refused("1000 and 1000", Due.STATE, () -> x.join(1, 3));
    }

    private static void joinNoUnit() {
        UnitRows x = Due.withUnits(4);
        due.outside("a", Due.NO_SUCH, 0, 3, n -> x.join(n, 1));
        due.outside("b", Due.NO_SUCH, 0, 3, n -> x.join(1, n));
        due.refused("both, the same", Due.NO_SUCH, () -> x.join(4, 4));
        due.inside("b", 0, 3, n -> x.join(1, n));
        due.is("pieces", x.told(1, 3), 15);
    }

    private static void joinNeedsRoom() {
        UnitRows x = Due.withUnits(2);
        Due.leaveRows(x, 1);
        due.leaves("room for one row of two", Due.NO_ROOM, x, () -> x.join(0, 1));
        UnitRows y = Due.withUnits(3);
        y.state(2, 1);
        Due.leaveRows(y, 2);
        due.done("room for just two rows", () -> y.join(0, 1));
        due.is("all rows", y.count(3), 400);
        due.refused("the state before the room", Due.STATE, () -> y.join(0, 2));
        UnitRows z = Due.withUnits(2);
        z.place(4, 2);
        due.done("a full place", () -> z.join(0, 1));
    }

    private static void weighGrams() {
        UnitRows x = Due.withUnits(1);
        x.day(7);
        due.outside("grams", Due.ARGUMENT, 1, 100000000, n -> x.weigh(0, n));
        due.is("rows after refusals", x.count(3), 1);
        due.is("the least", x.weigh(0, 1), -499);
        due.is("the greatest", x.weigh(0, 100000000), 99999500);
        due.hasRow("the least", x, 0, 1, 11, 7, 1);
        due.hasRow("the greatest", x, 0, 2, 11, 7, 100000000);
    }

    private static void weigh() {
        UnitRows x = Due.withUnits(2);
        due.is("as much as it should", x.weigh(0, 500), 0);
        due.is("more", x.weigh(0, 507), 7);
        due.is("less", x.weigh(0, 493), -7);
        x.good(2, 99);
        due.is("of a good that has other grams now", x.weigh(0, 500), 5);
        x.split(0, 2);
        due.is("fewer pieces", x.weigh(0, 500), 500 - 3 * 99);
        x.join(1, 0);
        due.is("more pieces", x.weigh(1, 1000), 1000 - 8 * 99);
        UnitRows y = Due.withLots();
        y.good(1, 30000);
        y.unit(0, 0, 0, 1000);
        due.is("the heaviest", y.weigh(0, 1), 1 - 30000000);
        due.is("the heaviest, as much as it should", y.weigh(0, 30000000), 0);
        for (int state = 0; state < 4; state++) {
            UnitRows z = Due.inState(state);
            due.is("in state " + state, z.weigh(0, 101), 1);
        }
    }

    private static void weighWithOthersInIt() {
        UnitRows x = Due.withChain(5, 5);
        due.is("four lie in it", x.weigh(0, 500), 0);
        due.is("one lies in it", x.weigh(3, 500), 0);
        due.is("it lies in four", x.weigh(4, 600), 100);
        due.is("only the weighed one has a row", x.count(3), 5 + 4 + 3);
    }

    private static void weighNotStanding() {
        UnitRows x = Due.withLostAndGone();
        due.leaves("a LOST one", Due.STATE, x, () -> x.weigh(1, 1));
        due.leaves("a GONE one", Due.STATE, x, () -> x.weigh(2, 1));
        due.refused("a GONE one, 0 grams", Due.ARGUMENT, () -> x.weigh(2, 0));
        x.found(1, 0);
        due.done("a found one", () -> x.weigh(1, 1));
    }

    private static void weighNoUnit() {
        UnitRows x = Due.withUnits(3);
        due.outside("unit", Due.NO_SUCH, 0, 2, n -> x.weigh(n, 1));
        due.refused("no unit, 0 grams", Due.NO_SUCH, () -> x.weigh(3, 0));
        due.inside("unit", 0, 2, n -> x.weigh(n, 1));
    }

    private static void weighNeedsRoom() {
        UnitRows x = Due.withLostAndGone();
        Due.leaveRows(x, 1);
        due.done("the last row", () -> x.weigh(0, 1));
        due.leaves("no row", Due.NO_ROOM, x, () -> x.weigh(0, 1));
        due.refused("the state before that", Due.STATE, () -> x.weigh(1, 1));
    }
}
