/** The example of README.md, with the answers that it tells. */
public final class UseTest {
    private static final Due due = new Due();

    public static void main(String[] args) {
        UnitRows rows = new UnitRows();
        int lot = rows.lot(1, 90);
        int box = rows.unit(lot, 2, 3, 40);
        int part = rows.split(box, 15);
        rows.into(part, box);
        rows.move(box, 5);
        due.is("the part's place", rows.told(part, 1), 5);
        due.is("how deep it is", rows.told(part, 6), 2);
        due.is("pieces of good 1 at place 5", rows.sum(1, 5), 40);
        due.is("what the box weighs too much", rows.weigh(box, 2600), 100);
        due.is("units that expire", rows.day(91), 2);
        due.is("the part's state", rows.told(part, 0), 3);
        due.is("the first EXPIRED unit of any lot and owner", rows.find(-1, -1, 3, 0), box);
        due.is("the kind of the box's row 1", rows.row(box, 1, 0), 5);
        due.refused("taking the box out", Due.STATE, () -> rows.out(box));
        due.end();
    }
}
