import java.util.NoSuchElementException;

/** Units of a warehouse, with their places, what lies in them, and their history. */
public final class UnitRows {
    private static final int PLACES = 16;
    private static final int GOODS = 8;
    private static final int LOTS = 16;
    private static final int OWNERS = 8;
    private static final int MOST_UNITS = 64;
    private static final int MOST_ROWS = 400;
    private static final int MOST_PIECES = 1000;
    private static final int MOST_GRAMS_A_PIECE = 30000;
    private static final int MOST_GRAMS_WEIGHED = 100000000;
    private static final int MOST_REASON = 9;
    private static final int LAST_DAY = 1000;
    private static final int DEEPEST = 5;
    private static final long MOST_SERIAL = 9999999999L;

    private static final int PLACE_TAKES_AT_FIRST = 20;
    private static final int GRAMS_AT_FIRST = 100;

    private static final int NOWHERE = -1;
    private static final int ANY = -1;
    private static final int NONE = -1;
    private static final int NO_SERIAL = 0;

    private static final int GOOD = 0;
    private static final int HELD = 1;
    private static final int DAMAGED = 2;
    private static final int EXPIRED = 3;
    private static final int LOST = 4;
    private static final int GONE = 5;

    private static final int ROW_MADE = 1;
    private static final int ROW_MOVED = 2;
    private static final int ROW_PUT_IN = 3;
    private static final int ROW_TAKEN_OUT = 4;
    private static final int ROW_SPLIT = 5;
    private static final int ROW_JOINED = 6;
    private static final int ROW_STATE = 7;
    private static final int ROW_SERIAL = 8;
    private static final int ROW_LOST = 9;
    private static final int ROW_FOUND = 10;
    private static final int ROW_WEIGHED = 11;

    private final int[] most = new int[PLACES];
    private final int[] grams = new int[GOODS];
    private final int[] lotGood = new int[LOTS];
    private final int[] lotLast = new int[LOTS];
    private final Unit[] units = new Unit[MOST_UNITS];
    private final History history = new History();
    private int lots = 0;
    private int made = 0;
    private int room = MOST_UNITS;
    private int today = 0;

    public UnitRows() {
        for (int place = 0; place < PLACES; place++) {
            most[place] = PLACE_TAKES_AT_FIRST;
        }
        for (int good = 0; good < GOODS; good++) {
            grams[good] = GRAMS_AT_FIRST;
        }
        for (int number = 0; number < MOST_UNITS; number++) {
            units[number] = new Unit(number);
        }
    }

    public void rows(int n) throws NegativeArraySizeException, IllegalArgumentException {
        if (n < 0) {
            throw new NegativeArraySizeException("room for fewer than no units");
        }
        checkRange(n, 0, MOST_UNITS);
        made = 0;
        room = n;
        history.clear();
    }

    public void place(int place, int most) throws IllegalArgumentException, IllegalStateException {
        checkPlace(place);
        checkRange(most, 0, MOST_UNITS);
        if (unitsAt(place) > most) {
            throw new IllegalStateException("more units stand at the place");
        }
        this.most[place] = most;
    }

    public void good(int good, int grams) throws IllegalArgumentException {
        checkRange(good, 0, GOODS - 1);
        checkRange(grams, 1, MOST_GRAMS_A_PIECE);
        this.grams[good] = grams;
    }

    public int lot(int good, int last) throws IllegalArgumentException, UnsupportedOperationException {
        checkRange(good, 0, GOODS - 1);
        checkRange(last, 0, LAST_DAY);
        if (lots >= LOTS) {
            throw new UnsupportedOperationException("no room for a lot");
        }
        int lot = lots;
        lotGood[lot] = good;
        lotLast[lot] = last;
        lots = lot + 1;
        return lot;
    }

    public int unit(int lot, int place, int owner, int pieces)
            throws NoSuchElementException, IllegalArgumentException, UnsupportedOperationException {
        if (!isWithin(lot, 0, lots - 1)) {
            throw new NoSuchElementException("no such lot");
        }
        checkPlace(place);
        checkRange(owner, 0, OWNERS - 1);
        checkRange(pieces, 1, MOST_PIECES);
        needRows(1);
        needSpace(place, 1);
        Unit unit = nextUnit();
        unit.be(lot, lotGood[lot], lotLast[lot], owner, pieces);
        unit.stand(unit.isOver(today) ? EXPIRED : GOOD, place, null);
        addRow(unit, ROW_MADE, place);
        return unit.number;
    }

    public void move(int unit, int place) throws NoSuchElementException, IllegalArgumentException,
            IllegalStateException, UnsupportedOperationException {
        Unit moved = unitOf(unit);
        checkPlace(place);
        checkStands(moved);
        if (moved.place == place && moved.container == null) {
            throw new IllegalStateException("the unit is there and lies in nothing");
        }
        needRows(1);
        if (moved.place != place) {
            needSpace(place, 1 + unitsWithin(moved));
        }
        moved.container = null;
        carry(moved, place);
        addRow(moved, ROW_MOVED, place);
    }

    public void into(int unit, int container)
            throws NoSuchElementException, IllegalStateException, UnsupportedOperationException {
        Unit inner = unitOf(unit);
        Unit outer = unitOf(container);
        if (!canLieIn(inner, outer)) {
            throw new IllegalStateException("the unit can't be put in there");
        }
        needRows(1);
        inner.container = outer;
        addRow(inner, ROW_PUT_IN, outer.number);
    }

    public void out(int unit)
            throws NoSuchElementException, IllegalStateException, UnsupportedOperationException {
        Unit taken = unitOf(unit);
        if (taken.container == null) {
            throw new IllegalStateException("the unit lies in nothing");
        }
        needRows(1);
        taken.container = null;
        addRow(taken, ROW_TAKEN_OUT, taken.place);
    }

    public int split(int unit, int pieces) throws NoSuchElementException, IllegalArgumentException,
            IllegalStateException, UnsupportedOperationException {
        Unit stays = unitOf(unit);
        checkRange(pieces, 1, stays.pieces - 1);
        checkStands(stays);
        if (!isPlain(stays)) {
            throw new IllegalStateException("something lies in the unit, or it has a serial number");
        }
        needRows(2);
        needSpace(stays.place, 1);
        Unit apart = nextUnit();
        apart.be(stays.lot, stays.good, stays.last, stays.owner, pieces);
        apart.stand(stays.state, stays.place, stays.container);
        stays.pieces -= pieces;
        addRow(stays, ROW_SPLIT, apart.number);
        addRow(apart, ROW_MADE, apart.place);
        return apart.number;
    }

    public void join(int a, int b)
            throws NoSuchElementException, IllegalStateException, UnsupportedOperationException {
        Unit stays = unitOf(a);
        Unit joined = unitOf(b);
        if (!canJoin(stays, joined)) {
            throw new IllegalStateException("the units can't be joined");
        }
        needRows(2);
        stays.pieces += joined.pieces;
        takeAway(joined, GONE);
        addRow(stays, ROW_JOINED, joined.number);
        addRow(joined, ROW_JOINED, stays.number);
    }

    public void state(int unit, int state) throws NoSuchElementException, IllegalArgumentException,
            IllegalStateException, UnsupportedOperationException {
        Unit changed = unitOf(unit);
        checkRange(state, GOOD, GONE);
        if (!changed.canBecome(state, today)) {
            throw new IllegalStateException("no way leads from its state to this one");
        }
        needRows(1);
        if (state == GONE) {
            takeAway(changed, GONE);
        } else {
            changed.state = state;
        }
        addRow(changed, ROW_STATE, state);
    }

    public void serial(int unit, long number) throws NoSuchElementException, IllegalArgumentException,
            IllegalStateException, UnsupportedOperationException {
        Unit named = unitOf(unit);
        if (number < 1 || number > MOST_SERIAL) {
            throw new IllegalArgumentException("a serial number outside its range");
        }
        checkStands(named);
        if (named.pieces > 1 || named.serial != NO_SERIAL || isSerialInUse(number)) {
            throw new IllegalStateException("the unit can't have this serial number");
        }
        needRows(1);
        named.serial = number;
        addRow(named, ROW_SERIAL, 0);
    }

    public void lost(int unit, int reason) throws NoSuchElementException, IllegalArgumentException,
            IllegalStateException, UnsupportedOperationException {
        Unit missing = unitOf(unit);
        checkRange(reason, 1, MOST_REASON);
        checkStands(missing);
        needRows(1);
        takeAway(missing, LOST);
        addRow(missing, ROW_LOST, reason);
    }

    public void found(int unit, int place) throws NoSuchElementException, IllegalArgumentException,
            IllegalStateException, UnsupportedOperationException {
        Unit back = unitOf(unit);
        checkPlace(place);
        if (back.state != LOST) {
            throw new IllegalStateException("the unit is not lost");
        }
        needRows(1);
        needSpace(place, 1);
        back.stand(back.isOver(today) ? EXPIRED : HELD, place, null);
        addRow(back, ROW_FOUND, place);
    }

    public int weigh(int unit, int grams) throws NoSuchElementException, IllegalArgumentException,
            IllegalStateException, UnsupportedOperationException {
        Unit weighed = unitOf(unit);
        checkRange(grams, 1, MOST_GRAMS_WEIGHED);
        checkStands(weighed);
        needRows(1);
        addRow(weighed, ROW_WEIGHED, grams);
        return grams - weighed.pieces * gramsOf(weighed.good);
    }

    public int day(int day) throws IllegalArgumentException {
        checkRange(day, today, LAST_DAY);
        today = day;
        int expired = 0;
        for (int i = 0; i < made; i++) {
            if (units[i].expire(day)) {
                expired++;
            }
        }
        return expired;
    }

    public int at(int place, int i) throws IllegalArgumentException, ArrayIndexOutOfBoundsException {
        checkPlace(place);
        int seen = 0;
        for (int number = 0; number < made; number++) {
            Unit unit = units[number];
            if (unit.place == place && unit.container == null) {
                if (seen == i) {
                    return number;
                }
                seen++;
            }
        }
        throw new ArrayIndexOutOfBoundsException("not so many units stand at the place itself");
    }

    public int find(int lot, int owner, int state, int i) throws IllegalArgumentException {
        if (i < 0) {
            throw new IllegalArgumentException("i is below 0");
        }
        int seen = 0;
        for (int number = 0; number < made; number++) {
            if (units[number].matches(lot, owner, state)) {
                if (seen == i) {
                    return number;
                }
                seen++;
            }
        }
        return NONE;
    }

    public long sum(int good, int place) throws IllegalArgumentException {
        checkRange(good, 0, GOODS - 1);
        checkPlace(place);
        long sum = 0;
        for (int i = 0; i < made; i++) {
            Unit unit = units[i];
            if (unit.good == good && unit.place == place && unit.state == GOOD) {
                sum += unit.pieces;
            }
        }
        return sum;
    }

    public int row(int unit, int i, int what) throws NoSuchElementException, IllegalArgumentException {
        int row = history.seek(unitOf(unit).number, i);
        if (row == NONE) {
            throw new NoSuchElementException("no such row");
        }
        checkRange(what, 0, 2);
        return history.read(row, what);
    }

    public int told(int unit, int what) throws NoSuchElementException, IllegalArgumentException {
        Unit asked = unitOf(unit);
        switch (what) {
            case 0:
                return asked.state;
            case 1:
                return asked.place;
            case 2:
                return asked.container == null ? NONE : asked.container.number;
            case 3:
                return asked.pieces;
            case 4:
                return asked.lot;
            case 5:
                return asked.owner;
            case 6:
                return asked.depth();
            case 7:
                return unitsWithin(asked);
            default:
                throw new IllegalArgumentException("no such what");
        }
    }

    public long packed(int unit) throws NoSuchElementException {
        return unitOf(unit).pack();
    }

    public int count(int what) {
        switch (what) {
            case 0:
                return made;
            case 1:
                return unitsStanding();
            case 2:
                return lots;
            case 3:
                return history.size;
            case 4:
                return today;
            default:
                return NONE;
        }
    }

    private static boolean isWithin(int value, int least, int greatest) {
        return value >= least && value <= greatest;
    }

    private static void checkRange(int value, int least, int greatest) {
        if (!isWithin(value, least, greatest)) {
            throw new IllegalArgumentException("a number outside its range");
        }
    }

    private static void checkPlace(int place) {
        checkRange(place, 0, PLACES - 1);
    }

    private static void checkStands(Unit unit) {
        if (!unit.stands()) {
            throw new IllegalStateException("the unit is lost or gone");
        }
    }

    private Unit unitOf(int number) {
        if (!isWithin(number, 0, made - 1)) {
            throw new NoSuchElementException("no such unit");
        }
        return units[number];
    }

    private void needRows(int more) {
        if (!history.hasRoom(more)) {
            throw new UnsupportedOperationException("no room for rows");
        }
    }

    private void needSpace(int place, int more) {
        if (!isWithin(place, 0, PLACES - 1) || unitsAt(place) + more > most[place]) {
            throw new UnsupportedOperationException("no room at the place");
        }
    }

    /** Called last of all checks of an act, since it takes the unit as it tests for it. */
    private Unit nextUnit() {
        if (made >= room || made >= MOST_UNITS) {
            throw new UnsupportedOperationException("no room for units");
        }
        Unit unit = units[made];
        made++;
        return unit;
    }

    private void addRow(Unit unit, int kind, int number) {
        history.add(unit.number, kind, today, number);
    }

    private int gramsOf(int good) {
        return isWithin(good, 0, GOODS - 1) ? grams[good] : 0;
    }

    private int unitsAt(int place) {
        int count = 0;
        for (int i = 0; i < made; i++) {
            if (units[i].place == place) {
                count++;
            }
        }
        return count;
    }

    private int unitsStanding() {
        int count = 0;
        for (int i = 0; i < made; i++) {
            if (units[i].stands()) {
                count++;
            }
        }
        return count;
    }

    private int unitsWithin(Unit outer) {
        int count = 0;
        for (int i = 0; i < made; i++) {
            if (units[i].liesWithin(outer)) {
                count++;
            }
        }
        return count;
    }

    /** How many levels a unit has with what lies in it: 1 if it is empty. */
    private int levels(Unit outer) {
        int deepest = outer.depth();
        for (int i = 0; i < made; i++) {
            if (units[i].liesWithin(outer)) {
                deepest = Math.max(deepest, units[i].depth());
            }
        }
        return deepest - outer.depth() + 1;
    }

    private void carry(Unit outer, int place) {
        for (int i = 0; i < made; i++) {
            if (units[i] == outer || units[i].liesWithin(outer)) {
                units[i].place = place;
            }
        }
    }

    private void takeAway(Unit outer, int state) {
        for (int i = 0; i < made; i++) {
            if (units[i] == outer || units[i].liesWithin(outer)) {
                units[i].state = state;
                units[i].place = NOWHERE;
            }
        }
        // Only now: the loop above finds the units within by their containers.
        for (int i = 0; i < made; i++) {
            if (!units[i].stands()) {
                units[i].container = null;
            }
        }
    }

    private boolean canLieIn(Unit inner, Unit outer) {
        return inner.stands() && outer.stands()
                && inner.place == outer.place
                && inner.container != outer
                && inner != outer
                && !outer.liesWithin(inner)
                && outer.depth() + levels(inner) <= DEEPEST;
    }

    private boolean canJoin(Unit stays, Unit joined) {
        return stays != joined
                && stays.stands() && joined.stands()
                && stays.isLike(joined)
                && isPlain(stays) && isPlain(joined)
                && stays.pieces + joined.pieces <= MOST_PIECES;
    }

    private boolean isPlain(Unit unit) {
        return unit.serial == NO_SERIAL && unitsWithin(unit) == 0;
    }

    private boolean isSerialInUse(long number) {
        for (int i = 0; i < made; i++) {
            if (units[i].serial == number && units[i].state != GONE) {
                return true;
            }
        }
        return false;
    }

    /** A unit; its lot's good and last day never change, so it keeps them itself. */
    private static final class Unit {
        final int number;
        int lot;
        int good;
        int last;
        int owner;
        int pieces;
        int state;
        int place;
        Unit container;
        long serial;

        Unit(int number) {
            this.number = number;
        }

        void be(int lot, int good, int last, int owner, int pieces) {
            this.lot = lot;
            this.good = good;
            this.last = last;
            this.owner = owner;
            this.pieces = pieces;
            this.serial = NO_SERIAL;
        }

        void stand(int state, int place, Unit container) {
            this.state = state;
            this.place = place;
            this.container = container;
        }

        boolean stands() {
            return state != LOST && state != GONE;
        }

        boolean isOver(int day) {
            return day > last;
        }

        boolean expire(int day) {
            boolean expires = (state == GOOD || state == HELD) && isOver(day);
            if (expires) {
                state = EXPIRED;
            }
            return expires;
        }

        boolean canBecome(int next, int day) {
            if (next == GONE) {
                return stands();
            }
            if ((next == GOOD || next == HELD) && isOver(day)) {
                return false;
            }
            switch (state) {
                case GOOD:
                    return next == HELD || next == DAMAGED;
                case HELD:
                    return next == GOOD || next == DAMAGED;
                case DAMAGED:
                    return next == HELD;
                default:
                    return false;
            }
        }

        int depth() {
            if (!stands()) {
                return 0;
            }
            int depth = 1;
            Unit outer = container;
            while (outer != null && depth < DEEPEST) {
                depth++;
                outer = outer.container;
            }
            return depth;
        }

        boolean liesWithin(Unit other) {
            Unit outer = container;
            for (int level = 1; outer != null && level < DEEPEST; level++) {
                if (outer == other) {
                    return true;
                }
                outer = outer.container;
            }
            return false;
        }

        boolean matches(int wantedLot, int wantedOwner, int wantedState) {
            return (wantedLot == ANY || wantedLot == lot)
                    && (wantedOwner == ANY || wantedOwner == owner)
                    && (wantedState == ANY || wantedState == state);
        }

        boolean isLike(Unit other) {
            return lot == other.lot && owner == other.owner && state == other.state
                    && place == other.place && container == other.container;
        }

        long pack() {
            long low = lot | owner << 4 | (pieces - 1) << 7 | state << 17;
            return low | serial << 20;
        }
    }

    /** The rows of all units, in the order in which they came. */
    private static final class History {
        final int[] units = new int[MOST_ROWS];
        final int[] kinds = new int[MOST_ROWS];
        final int[] days = new int[MOST_ROWS];
        final int[] numbers = new int[MOST_ROWS];
        int size = 0;

        void clear() {
            size = 0;
        }

        boolean hasRoom(int more) {
            return size + more <= MOST_ROWS;
        }

        void add(int unit, int kind, int day, int number) {
            if (hasRoom(1)) {
                units[size] = unit;
                kinds[size] = kind;
                days[size] = day;
                numbers[size] = number;
                size++;
            }
        }

        /** Where the i-th row of a unit is, or NONE. */
        int seek(int unit, int i) {
            int seen = 0;
            for (int row = 0; row < size; row++) {
                if (units[row] == unit) {
                    if (seen == i) {
                        return row;
                    }
                    seen++;
                }
            }
            return NONE;
        }

        int read(int row, int what) {
            if (!isWithin(row, 0, size - 1)) {
                return NONE;
            }
            return what == 0 ? kinds[row] : what == 1 ? days[row] : numbers[row];
        }
    }
}
