/** Promises 18 to 22 and 24: at, find, sum, row, told, count. */
public final class AskingTest {
    private static final Due due = new Due();

    public static void main(String[] args) {
        at();
        find();
        sum();
        row();
        told();
        count();
        due.end();
    }

    private static void at() {
        UnitRows x = Due.withChain(6, 3);
        x.move(4, 15);
        x.lost(5, 1);
        due.is("the first", x.at(4, 0), 0);
        due.is("the second", x.at(4, 1), 3);
        due.refused("a third", Due.INDEX, () -> x.at(4, 2));
        due.refused("i -1", Due.INDEX, () -> x.at(4, -1));
        due.refused("least i", Due.INDEX, () -> x.at(4, Integer.MIN_VALUE));
        due.refused("greatest i", Due.INDEX, () -> x.at(4, Integer.MAX_VALUE));
        due.refused("nothing there", Due.INDEX, () -> x.at(0, 0));
        due.is("at place 15", x.at(15, 0), 4);
        due.refused("place -1, where LOST ones are not", Due.ARGUMENT, () -> x.at(-1, 0));
        due.refused("place 16", Due.ARGUMENT, () -> x.at(16, -1));
        x.out(1);
        due.is("taken out", x.at(4, 1), 1);
        x.move(4, 4);
        due.is("upward, not as they came", x.at(4, 3), 4);
    }

    private static void find() {
        UnitRows x = Due.withUnits(3);
        x.unit(0, 0, 3, 1);
        x.unit(0, 0, 4, 1);
        x.state(1, 1);
        x.into(2, 0);
        x.state(4, 5);
        due.is("any", x.find(-1, -1, -1, 0), 0);
        due.is("any, the last", x.find(-1, -1, -1, 4), 4);
        due.is("any, not so many", x.find(-1, -1, -1, 5), -1);
        due.is("greatest i", x.find(-1, -1, -1, Integer.MAX_VALUE), -1);
        due.is("of a lot", x.find(0, -1, -1, 1), 4);
        due.is("of a lot, not so many", x.find(0, -1, -1, 2), -1);
        due.is("of an owner", x.find(-1, 3, -1, 3), 3);
        due.is("of an owner, not so many", x.find(-1, 3, -1, 4), -1);
        due.is("of a state", x.find(-1, -1, 1, 0), 1);
        due.is("GOOD", x.find(-1, -1, 0, 1), 2);
        due.is("GONE", x.find(-1, -1, 5, 0), 4);
        due.is("of all three", x.find(1, 3, 0, 1), 2);
        due.is("of all three, not so many", x.find(1, 3, 0, 2), -1);
        due.is("a lot that there is not", x.find(2, -1, -1, 0), -1);
        due.is("an owner that there is not", x.find(-1, 8, -1, 0), -1);
        due.is("a state that there is not", x.find(-1, -1, 6, 0), -1);
        due.is("below any", x.find(-2, -1, -1, 0), -1);
        due.refused("i -1", Due.ARGUMENT, () -> x.find(-1, -1, -1, -1));
        due.refused("least i", Due.ARGUMENT, () -> x.find(9, 9, 9, Integer.MIN_VALUE));
    }

    private static void sum() {
        UnitRows x = Due.withChain(5, 3);
        x.unit(0, 4, 3, 100);
        x.unit(1, 5, 3, 1000);
        x.lot(2, 10);
        x.unit(2, 4, 0, 7);
        due.is("those within too, of all lots and owners", x.sum(2, 4), 25 + 7);
        due.is("of another good", x.sum(1, 4), 100);
        due.is("at another place", x.sum(2, 5), 1000);
        due.is("of a good that there is none of", x.sum(7, 15), 0);
        x.state(3, 1);
        x.state(4, 2);
        due.is("without HELD and DAMAGED", x.sum(2, 4), 15 + 7);
        x.day(11);
        due.is("without EXPIRED", x.sum(2, 4), 15);
        x.lost(2, 1);
        x.state(1, 5);
        due.is("without LOST and GONE", x.sum(2, 4), 5);
        due.is("of good 0", x.sum(0, 0), 0);
        due.refused("good -1", Due.ARGUMENT, () -> x.sum(-1, 0));
        due.refused("good 8", Due.ARGUMENT, () -> x.sum(8, 0));
        due.refused("place -1", Due.ARGUMENT, () -> x.sum(0, -1));
        due.refused("place 16", Due.ARGUMENT, () -> x.sum(0, 16));
        UnitRows y = Due.withLots();
        y.place(0, 64);
        for (int i = 0; i < 64; i++) {
            y.unit(1, 0, 0, 1000);
        }
        due.is("the greatest", y.sum(2, 0), 64000);
    }

    private static void row() {
        UnitRows x = Due.withUnits(2);
        x.day(3);
        x.weigh(1, 77);
        x.weigh(0, 55);
        due.is("kind", x.row(0, 1, 0), 11);
        due.is("day", x.row(0, 1, 1), 3);
        due.is("number", x.row(0, 1, 2), 55);
        due.is("the first row's day", x.row(0, 0, 1), 0);
        due.is("the other's number", x.row(1, 1, 2), 77);
        due.refused("row 2", Due.NO_SUCH, () -> x.row(0, 2, 0));
        due.refused("row -1", Due.NO_SUCH, () -> x.row(0, -1, 0));
        due.refused("least row", Due.NO_SUCH, () -> x.row(0, Integer.MIN_VALUE, 0));
        due.refused("unit 2", Due.NO_SUCH, () -> x.row(2, 0, 0));
        due.refused("unit -1", Due.NO_SUCH, () -> x.row(-1, 0, 0));
        due.refused("what -1", Due.ARGUMENT, () -> x.row(0, 0, -1));
        due.refused("what 3", Due.ARGUMENT, () -> x.row(0, 0, 3));
        due.refused("row 2 before what 3", Due.NO_SUCH, () -> x.row(0, 2, 3));
        due.refused("unit 2 before what 3", Due.NO_SUCH, () -> x.row(2, 0, 3));
        Due.leaveRows(x, 0);
        due.is("the last of 400", x.row(0, 397, 0), 11);
        due.refused("the one behind it", Due.NO_SUCH, () -> x.row(0, 398, 0));
    }

    private static void told() {
        UnitRows x = Due.withChain(4, 3);
        int[][] told = {
            {0, 4, -1, 5, 1, 3, 1, 2},
            {0, 4, 0, 5, 1, 3, 2, 1},
            {0, 4, 1, 5, 1, 3, 3, 0},
            {0, 4, -1, 5, 1, 3, 1, 0},
        };
        for (int u = 0; u < told.length; u++) {
            for (int what = 0; what < 8; what++) {
                due.is("told(" + u + ", " + what + ")", x.told(u, what), told[u][what]);
            }
        }
        due.refused("what -1", Due.ARGUMENT, () -> x.told(0, -1));
        due.refused("what 8", Due.ARGUMENT, () -> x.told(0, 8));
        due.refused("unit 4 before what 8", Due.NO_SUCH, () -> x.told(4, 8));
        due.refused("unit -1", Due.NO_SUCH, () -> x.told(-1, 0));
        due.refused("greatest unit", Due.NO_SUCH, () -> x.told(Integer.MAX_VALUE, 0));
        due.refused("least unit", Due.NO_SUCH, () -> x.told(Integer.MIN_VALUE, 0));
    }

    private static void count() {
        UnitRows x = Due.withUnits(5);
        x.lost(0, 1);
        x.state(1, 5);
        x.state(2, 1);
        x.day(12);
        int[] count = {5, 3, 2, 8, 12};
        for (int what = 0; what < count.length; what++) {
            due.is("count(" + what + ")", x.count(what), count[what]);
        }
        due.is("count(-1)", x.count(-1), -1);
        due.is("count(5)", x.count(5), -1);
        due.is("count of the least", x.count(Integer.MIN_VALUE), -1);
        due.is("count of the greatest", x.count(Integer.MAX_VALUE), -1);
    }
}
