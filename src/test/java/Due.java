import java.util.NoSuchElementException;

/** What the tests share: they tell every answer that is not the one that is due. */
final class Due {
    static final Class<?> NO_SUCH = NoSuchElementException.class;
    static final Class<?> ARGUMENT = IllegalArgumentException.class;
    static final Class<?> STATE = IllegalStateException.class;
    static final Class<?> NO_ROOM = UnsupportedOperationException.class;
    static final Class<?> INDEX = ArrayIndexOutOfBoundsException.class;
    static final Class<?> NEGATIVE = NegativeArraySizeException.class;

    interface Act {
        void run();
    }

    private int wrong = 0;
    private int asked = 0;

    void is(String what, long got, long want) {
        asked++;
        if (got != want) {
            tell(what + " answered " + got + ", due is " + want);
        }
    }

    boolean same(String what, String got, String want) {
        asked++;
        boolean same = got.equals(want);
        if (!same) {
            tell(what + " answered " + got + ", due is " + want);
        }
        return same;
    }

    void refused(String what, Class<?> want, Act act) {
        asked++;
        Class<?> got = thrownBy(act);
        if (got != want) {
            tell(what + " threw " + got + ", due is " + want);
        }
    }

    static Class<?> thrownBy(Act act) {
        try {
            act.run();
            return null;
        } catch (RuntimeException e) {
            return e.getClass();
        }
    }

    void tell(String text) {
        wrong++;
        if (wrong <= 50) {
            System.out.println(text);
        }
    }

    void end() {
        System.out.println(asked + " answers looked at, " + wrong + " not as due");
        if (wrong != 0) {
            System.exit(1);
        }
    }

    /** A new object with lot 0 (of good 1, last day 10) and lot 1 (of good 2, last day 1000). */
    static UnitRows withLots() {
        UnitRows x = new UnitRows();
        x.lot(1, 10);
        x.lot(2, 1000);
        return x;
    }

    /** As withLots(), with so many units of lot 1, owner 3, 5 pieces, at place 4. */
    static UnitRows withUnits(int n) {
        UnitRows x = withLots();
        for (int i = 0; i < n; i++) {
            x.unit(1, 4, 3, 5);
        }
        return x;
    }

    /** As withUnits(n), unit 1 in unit 0, unit 2 in unit 1 and so on down to unit deep - 1. */
    static UnitRows withChain(int n, int deep) {
        UnitRows x = withUnits(n);
        for (int i = 1; i < deep; i++) {
            x.into(i, i - 1);
        }
        return x;
    }

    /** Fills the history by weighing unit 0, until it has room for so many rows more. */
    static void leaveRows(UnitRows x, int left) {
        int more = 400 - left - x.count(3);
        for (int i = 0; i < more; i++) {
            x.weigh(0, 1);
        }
    }
}
