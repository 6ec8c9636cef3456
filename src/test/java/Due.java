import java.util.NoSuchElementException;
import java.util.function.IntConsumer;

/** What the tests share: they tell every answer that is not the one that is due. */
final class Due {
    static final Class<?> NO_SUCH = NoSuchElementException.class;
    static final Class<?> ARGUMENT = IllegalArgumentException.class;
    static final Class<?> STATE = IllegalStateException.class;
    static final Class<?> NO_ROOM = UnsupportedOperationException.class;
    static final Class<?> INDEX = ArrayIndexOutOfBoundsException.class;
    static final Class<?> NEGATIVE = NegativeArraySizeException.class;

    /** For the sentences that stand before the promises. */
    static final int TERMS = 0;

    interface Act {
        void run();
    }

    private int wrong = 0;
    private int asked = 0;
    private int toldOfThis = 0;
    private int sentences = 0;
    private String about = "";

    /** A test of one sentence of the document; its words stand before what the test tells. */
    void sentence(int promise, String words, Act test) {
        int before = asked;
        about = (promise == TERMS ? "Terms" : "Promise " + promise) + ", \"" + words + "\": ";
        sentences++;
        toldOfThis = 0;
        try {
            test.run();
        } catch (RuntimeException e) {
            tell("the test was stopped by " + e + " at " + e.getStackTrace()[0]);
        }
        if (asked == before) {
            tell("nothing was looked at");
        }
        about = "";
    }

    void is(String what, long got, long want) {
        asked++;
        if (got != want) {
            tell(what + " answered " + got + ", due is " + want);
        }
    }

    boolean same(String what, String got, String want) {
        asked++;
        boolean same = got.equals(want);
        if (!same) {
            tell(what + " answered " + got + ", due is " + want);
        }
        return same;
    }

    void refused(String what, Class<?> want, Act act) {
        asked++;
        Class<?> got = thrownBy(act);
        if (got != want) {
            tell(what + " threw " + got + ", due is " + want);
        }
    }

    void done(String what, Act act) {
        refused(what, null, act);
    }

    /** An argument just outside its range and far outside, where a narrower number would wrap into it. */
    void outside(String what, Class<?> want, int least, int greatest, IntConsumer call) {
        int[] numbers = {least - 1, greatest + 1, -greatest - 1, Integer.MIN_VALUE, Integer.MAX_VALUE,
            Integer.MIN_VALUE + least, least + (1 << 30)};
        for (int number : numbers) {
            refused(what + " " + number, want, () -> call.accept(number));
        }
    }

    /** Both ends of an argument's range are taken. */
    void inside(String what, int least, int greatest, IntConsumer call) {
        done(what + " " + least, () -> call.accept(least));
        done(what + " " + greatest, () -> call.accept(greatest));
    }

    /** A call that is refused and leaves all that the object tells as it was. */
    void leaves(String what, Class<?> want, UnitRows x, Act act) {
        String before = look(x);
        refused(what, want, act);
        same(what + ": what the object tells", look(x), before);
    }

    void tells(String what, UnitRows x, int unit, int... told) {
        for (int i = 0; i < told.length; i++) {
            is(what + ": told(" + unit + ", " + i + ")", x.told(unit, i), told[i]);
        }
    }

    void hasRow(String what, UnitRows x, int unit, int i, int kind, int day, int number) {
        is(what + ": kind", x.row(unit, i, 0), kind);
        is(what + ": day", x.row(unit, i, 1), day);
        is(what + ": number", x.row(unit, i, 2), number);
    }

    void tell(String text) {
        wrong++;
        toldOfThis++;
        if (toldOfThis <= 10) {
            System.out.println(about + text);
        }
    }

    void end() {
        System.out.println((sentences > 0 ? sentences + " sentences, " : "")
                + asked + " answers looked at, " + wrong + " not as due");
        if (wrong != 0) {
            System.exit(1);
        }
    }

    static Class<?> thrownBy(Act act) {
        try {
            act.run();
            return null;
        } catch (RuntimeException e) {
            return e.getClass();
        }
    }

    /** All that an object tells of its units, but for their rows, of which it has only the number. */
    static String look(UnitRows x) {
        StringBuilder look = new StringBuilder();
        for (int what = 0; what < 5; what++) {
            look.append(x.count(what)).append(' ');
        }
        int units = x.count(0);
        for (int unit = 0; unit < units; unit++) {
            look.append("; ").append(x.packed(unit));
            for (int what : new int[] {1, 2, 6, 7}) {
                look.append(' ').append(x.told(unit, what));
            }
        }
        return look.toString();
    }

    static String lookAtRows(UnitRows x) {
        StringBuilder look = new StringBuilder();
        int units = x.count(0);
        for (int unit = 0; unit < units; unit++) {
            look.append("; ");
            for (int row = 0; hasRow(x, unit, row); row++) {
                look.append('(').append(x.row(unit, row, 0)).append(' ').append(x.row(unit, row, 1))
                        .append(' ').append(x.row(unit, row, 2)).append(')');
            }
        }
        return look.toString();
    }

    static int rowsOf(UnitRows x, int unit) {
        int rows = 0;
        while (hasRow(x, unit, rows)) {
            rows++;
        }
        return rows;
    }

    private static boolean hasRow(UnitRows x, int unit, int row) {
        return thrownBy(() -> x.row(unit, row, 0)) == null;
    }

    /** A new object with lot 0 (of good 1, last day 10) and lot 1 (of good 2, last day 1000). */
    static UnitRows withLots() {
        UnitRows x = new UnitRows();
        x.lot(1, 10);
        x.lot(2, 1000);
        return x;
    }

    /** As withLots(), with so many units of lot 1, owner 3, 5 pieces, at place 4. */
    static UnitRows withUnits(int n) {
        UnitRows x = withLots();
        for (int i = 0; i < n; i++) {
            x.unit(1, 4, 3, 5);
        }
        return x;
    }

    /** As withUnits(n), unit 1 in unit 0, unit 2 in unit 1 and so on down to unit deep - 1. */
    static UnitRows withChain(int n, int deep) {
        UnitRows x = withUnits(n);
        for (int i = 1; i < deep; i++) {
            x.into(i, i - 1);
        }
        return x;
    }

    /** As withUnits(3), unit 0 standing, unit 1 LOST, unit 2 GONE. */
    static UnitRows withLostAndGone() {
        UnitRows x = withUnits(3);
        x.lost(1, 1);
        x.state(2, 5);
        return x;
    }

    /** A new object whose unit 0 (of lot 0, one piece, at place 0) is in this state. */
    static UnitRows inState(int state) {
        UnitRows x = withLots();
        x.unit(0, 0, 0, 1);
        if (state == 1 || state == 2 || state == 5) {
            x.state(0, state);
        } else if (state == 3) {
            x.day(11);
        } else if (state == 4) {
            x.lost(0, 1);
        }
        return x;
    }

    /** Fills the history by weighing unit 0, until it has room for so many rows more. */
    static void leaveRows(UnitRows x, int left) {
        int more = 400 - left - x.count(3);
        for (int i = 0; i < more; i++) {
            x.weigh(0, 1);
        }
    }
}
