import java.util.ArrayList;
import java.util.Arrays;
import java.util.List;
import java.util.Random;
import java.util.function.LongSupplier;

/**
 * Runs of random calls (always the same ones), each answer held against a plain model of the
 * document that shares no way of working with the program: a unit holds the list of those in it.
 */
public final class RandomRunsTest {
    private static final int RUNS = 4000;
    private static final int CALLS = 510;

    private static final class Refusal extends RuntimeException {
        private static final long serialVersionUID = 1;
        final Class<?> kind;

        Refusal(Class<?> kind) {
            this.kind = kind;
        }
    }

    private static final class Box {
        int number;
        int lot;
        int owner;
        int pieces;
        int state;
        int place;
        Box parent;
        long serial;
        final List<Box> children = new ArrayList<>();
        final List<int[]> rows = new ArrayList<>();

        boolean gone() {
            return state >= 4;
        }

        List<Box> all() {
            List<Box> all = new ArrayList<>();
            all.add(this);
            for (Box child : children) {
                all.addAll(child.all());
            }
            return all;
        }

        int height() {
            int height = 0;
            for (Box child : children) {
                height = Math.max(height, child.height());
            }
            return height + 1;
        }

        int depth() {
            return gone() ? 0 : parent == null ? 1 : parent.depth() + 1;
        }

        void hang(Box under) {
            if (parent != null) {
                parent.children.remove(this);
            }
            parent = under;
            if (under != null) {
                under.children.add(this);
            }
        }
    }

    private static final class Model {
        int[] most = new int[16];
        int[] grams = new int[8];
        List<int[]> lots = new ArrayList<>();
        List<Box> boxes = new ArrayList<>();
        int room = 64;
        int rows = 0;
        int day = 0;

        Model() {
            Arrays.fill(most, 20);
            Arrays.fill(grams, 100);
        }

        Box box(long n) {
            refuse(n < 0 || n >= boxes.size(), Due.NO_SUCH);
            return boxes.get((int) n);
        }

        void refuse(boolean when, Class<?> kind) {
            if (when) {
                throw new Refusal(kind);
            }
        }

        void range(long value, long low, long high) {
            refuse(value < low || value > high, Due.ARGUMENT);
        }

        long there(int place) {
            return boxes.stream().filter(b -> !b.gone() && b.place == place).count();
        }

        void roomFor(int newRows, int place, int units) {
            refuse(rows + newRows > 400, Due.NO_ROOM);
            refuse(units > 0 && there(place) + units > most[place], Due.NO_ROOM);
        }

        void note(Box box, int kind, int number) {
            box.rows.add(new int[] {kind, day, number});
            rows++;
        }

        boolean over(int lot) {
            return lots.get(lot)[1] < day;
        }

        Box make(int lot, int owner, int pieces, int state, int place) {
            Box box = new Box();
            box.number = boxes.size();
            box.lot = lot;
            box.owner = owner;
            box.pieces = pieces;
            box.state = state;
            box.place = place;
            boxes.add(box);
            note(box, 1, place);
            return box;
        }

        void away(Box top, int state) {
            for (Box box : top.all()) {
                box.hang(null);
                box.state = state;
            }
        }

        long call(int method, long[] a) {
            switch (method) {
                case 0: return rows(a);
                case 1: return place(a);
                case 2: return good(a);
                case 3: return lot(a);
                case 4: return unit(a);
                case 5: return move(a);
                case 6: return into(a);
                case 7: return out(a);
                case 8: return split(a);
                case 9: return join(a);
                case 10: return state(a);
                case 11: return serial(a);
                case 12: return lost(a);
                case 13: return found(a);
                case 14: return weigh(a);
                case 15: return day(a);
                case 16: return at(a);
                case 17: return find(a);
                case 18: return sum(a);
                case 19: return row(a);
                case 20: return told(a);
                case 21: return packed(a);
                default: return count(a);
            }
        }

        long rows(long[] a) {
            refuse(a[0] < 0, Due.NEGATIVE);
            range(a[0], 0, 64);
            boxes.clear();
            rows = 0;
            room = (int) a[0];
            return 0;
        }

        long place(long[] a) {
            range(a[0], 0, 15);
            range(a[1], 0, 64);
            refuse(there((int) a[0]) > a[1], Due.STATE);
            most[(int) a[0]] = (int) a[1];
            return 0;
        }

        long good(long[] a) {
            range(a[0], 0, 7);
            range(a[1], 1, 30000);
            grams[(int) a[0]] = (int) a[1];
            return 0;
        }

        long lot(long[] a) {
            range(a[0], 0, 7);
            range(a[1], 0, 1000);
            refuse(lots.size() == 16, Due.NO_ROOM);
            lots.add(new int[] {(int) a[0], (int) a[1]});
            return lots.size() - 1;
        }

        long unit(long[] a) {
            refuse(a[0] < 0 || a[0] >= lots.size(), Due.NO_SUCH);
            range(a[1], 0, 15);
            range(a[2], 0, 7);
            range(a[3], 1, 1000);
            roomFor(1, (int) a[1], 1);
            refuse(boxes.size() == room, Due.NO_ROOM);
            int state = over((int) a[0]) ? 3 : 0;
            return make((int) a[0], (int) a[2], (int) a[3], state, (int) a[1]).number;
        }

        long move(long[] a) {
            Box box = box(a[0]);
            range(a[1], 0, 15);
            int to = (int) a[1];
            refuse(box.gone() || box.place == to && box.parent == null, Due.STATE);
            roomFor(1, to, box.place == to ? 0 : box.all().size());
            box.hang(null);
            box.all().forEach(each -> each.place = to);
            note(box, 2, to);
            return 0;
        }

        long into(long[] a) {
            Box box = box(a[0]);
            Box container = box(a[1]);
            refuse(box.gone() || container.gone() || box.place != container.place, Due.STATE);
            refuse(box.all().contains(container) || box.parent == container, Due.STATE);
            refuse(container.depth() + box.height() > 5, Due.STATE);
            roomFor(1, 0, 0);
            box.hang(container);
            note(box, 3, container.number);
            return 0;
        }

        long out(long[] a) {
            Box box = box(a[0]);
            refuse(box.parent == null, Due.STATE);
            roomFor(1, 0, 0);
            box.hang(null);
            note(box, 4, box.place);
            return 0;
        }

        long split(long[] a) {
            Box box = box(a[0]);
            range(a[1], 1, box.pieces - 1);
            refuse(box.gone() || !box.children.isEmpty() || box.serial != 0, Due.STATE);
            roomFor(2, box.place, 1);
            refuse(boxes.size() == room, Due.NO_ROOM);
            Box made = make(box.lot, box.owner, (int) a[1], box.state, box.place);
            made.hang(box.parent);
            box.pieces -= (int) a[1];
            note(box, 5, made.number);
            return made.number;
        }

        long join(long[] a) {
            Box box = box(a[0]);
            Box other = box(a[1]);
            refuse(box == other || box.gone() || other.gone(), Due.STATE);
            refuse(box.lot != other.lot || box.owner != other.owner || box.state != other.state, Due.STATE);
            refuse(box.place != other.place || box.parent != other.parent, Due.STATE);
            refuse(!box.children.isEmpty() || !other.children.isEmpty(), Due.STATE);
            refuse(box.serial != 0 || other.serial != 0 || box.pieces + other.pieces > 1000, Due.STATE);
            roomFor(2, 0, 0);
            box.pieces += other.pieces;
            away(other, 5);
            note(box, 6, other.number);
            note(other, 6, box.number);
            return 0;
        }

        long state(long[] a) {
            Box box = box(a[0]);
            range(a[1], 0, 5);
            String way = box.state + ">" + a[1];
            boolean known = "0>1 0>2 1>0 1>2 2>1 0>5 1>5 2>5 3>5".contains(way);
            refuse(!known || a[1] < 2 && over(box.lot), Due.STATE);
            roomFor(1, 0, 0);
            if (a[1] == 5) {
                away(box, 5);
            }
            box.state = (int) a[1];
            note(box, 7, box.state);
            return 0;
        }

        long serial(long[] a) {
            Box box = box(a[0]);
            range(a[1], 1, 9999999999L);
            refuse(box.gone() || box.pieces != 1 || box.serial != 0, Due.STATE);
            refuse(boxes.stream().anyMatch(each -> each.state != 5 && each.serial == a[1]), Due.STATE);
            roomFor(1, 0, 0);
            box.serial = a[1];
            note(box, 8, 0);
            return 0;
        }

        long lost(long[] a) {
            Box box = box(a[0]);
            range(a[1], 1, 9);
            refuse(box.gone(), Due.STATE);
            roomFor(1, 0, 0);
            away(box, 4);
            note(box, 9, (int) a[1]);
            return 0;
        }

        long found(long[] a) {
            Box box = box(a[0]);
            range(a[1], 0, 15);
            refuse(box.state != 4, Due.STATE);
            roomFor(1, (int) a[1], 1);
            box.state = over(box.lot) ? 3 : 1;
            box.place = (int) a[1];
            note(box, 10, box.place);
            return 0;
        }

        long weigh(long[] a) {
            Box box = box(a[0]);
            range(a[1], 1, 100000000);
            refuse(box.gone(), Due.STATE);
            roomFor(1, 0, 0);
            note(box, 11, (int) a[1]);
            return a[1] - (long) grams[lots.get(box.lot)[0]] * box.pieces;
        }

        long day(long[] a) {
            range(a[0], day, 1000);
            day = (int) a[0];
            int expired = 0;
            for (Box box : boxes) {
                if (box.state < 2 && over(box.lot)) {
                    box.state = 3;
                    expired++;
                }
            }
            return expired;
        }

        long at(long[] a) {
            range(a[0], 0, 15);
            int[] there = boxes.stream().filter(b -> !b.gone() && b.parent == null && b.place == a[0])
                    .mapToInt(b -> b.number).toArray();
            refuse(a[1] < 0 || a[1] >= there.length, Due.INDEX);
            return there[(int) a[1]];
        }

        long find(long[] a) {
            range(a[3], 0, Long.MAX_VALUE);
            int[] like = boxes.stream().filter(b -> a[0] == -1 || a[0] == b.lot)
                    .filter(b -> a[1] == -1 || a[1] == b.owner)
                    .filter(b -> a[2] == -1 || a[2] == b.state).mapToInt(b -> b.number).toArray();
            return a[3] < like.length ? like[(int) a[3]] : -1;
        }

        long sum(long[] a) {
            range(a[0], 0, 7);
            range(a[1], 0, 15);
            return boxes.stream().filter(b -> b.state == 0 && b.place == a[1])
                    .filter(b -> lots.get(b.lot)[0] == a[0]).mapToLong(b -> b.pieces).sum();
        }

        long row(long[] a) {
            Box box = box(a[0]);
            refuse(a[1] < 0 || a[1] >= box.rows.size(), Due.NO_SUCH);
            range(a[2], 0, 2);
            return box.rows.get((int) a[1])[(int) a[2]];
        }

        long told(long[] a) {
            Box box = box(a[0]);
            range(a[1], 0, 7);
            long[] told = {box.state, box.gone() ? -1 : box.place, box.parent == null ? -1 : box.parent.number,
                box.pieces, box.lot, box.owner, box.depth(), box.all().size() - 1};
            return told[(int) a[1]];
        }

        long packed(long[] a) {
            Box box = box(a[0]);
            return box.lot + 16L * (box.owner + 8L * (box.pieces - 1 + 1024L * (box.state + 8L * box.serial)));
        }

        long count(long[] a) {
            long standing = boxes.stream().filter(b -> !b.gone()).count();
            long[] count = {boxes.size(), standing, lots.size(), rows, day};
            return a[0] < 0 || a[0] > 4 ? -1 : count[(int) a[0]];
        }
    }

    private static long callProgram(UnitRows x, int method, long[] l) {
        int[] a = new int[4];
        for (int i = 0; i < 4; i++) {
            a[i] = (int) l[i];
        }
        switch (method) {
            case 0: x.rows(a[0]); return 0;
            case 1: x.place(a[0], a[1]); return 0;
            case 2: x.good(a[0], a[1]); return 0;
            case 3: return x.lot(a[0], a[1]);
            case 4: return x.unit(a[0], a[1], a[2], a[3]);
            case 5: x.move(a[0], a[1]); return 0;
            case 6: x.into(a[0], a[1]); return 0;
            case 7: x.out(a[0]); return 0;
            case 8: return x.split(a[0], a[1]);
            case 9: x.join(a[0], a[1]); return 0;
            case 10: x.state(a[0], a[1]); return 0;
            case 11: x.serial(a[0], l[1]); return 0;
            case 12: x.lost(a[0], a[1]); return 0;
            case 13: x.found(a[0], a[1]); return 0;
            case 14: return x.weigh(a[0], a[1]);
            case 15: return x.day(a[0]);
            case 16: return x.at(a[0], a[1]);
            case 17: return x.find(a[0], a[1], a[2], a[3]);
            case 18: return x.sum(a[0], a[1]);
            case 19: return x.row(a[0], a[1], a[2]);
            case 20: return x.told(a[0], a[1]);
            case 21: return x.packed(a[0]);
            default: return x.count(a[0]);
        }
    }

    private static final String[] NAMES = {"rows", "place", "good", "lot", "unit", "move", "into", "out", "split",
        "join", "state", "serial", "lost", "found", "weigh", "day", "at", "find", "sum", "row", "told", "packed",
        "count"};

    /** How often each method is called, of their sum: into, told and row most of all, rows seldom. */
    private static final int[] WEIGHTS = {0, 3, 1, 3, 10, 14, 24, 4, 8, 8, 8, 5, 2, 4, 4, 2, 6, 5, 4, 12, 30, 5, 4};

    /** One run's own numbers, so that some have few places and units, and some many. */
    private static final class Caller {
        final Random random;
        final int places;
        final int lots;
        final int owners;
        final int pieces;
        final int dayStep;
        final boolean full;

        Caller(Random random) {
            this.random = random;
            places = 1 + random.nextInt(random.nextBoolean() ? 3 : 16);
            lots = 1 + random.nextInt(16);
            owners = 1 + random.nextInt(random.nextBoolean() ? 2 : 8);
            pieces = random.nextBoolean() ? 3 : 1000;
            dayStep = 1 + random.nextInt(40);
            full = random.nextInt(4) == 0;
        }

        int method() {
            if (random.nextInt(400) == 0) {
                return 0;
            }
            if (full && random.nextInt(3) > 0) {
                return 14;
            }
            int sum = 0;
            for (int weight : WEIGHTS) {
                sum += weight;
            }
            int left = random.nextInt(sum);
            int method = 0;
            while (left >= WEIGHTS[method]) {
                left -= WEIGHTS[method];
                method++;
            }
            return method;
        }

        /** A number from 0 up to below n, or now and then one at or outside the edges. */
        long below(int n) {
            if (random.nextInt(40) > 0) {
                return random.nextInt(Math.max(1, n));
            }
            long[] edges = {-1, 0, n - 1, n, n + 1, -2, Integer.MAX_VALUE, Integer.MIN_VALUE};
            return edges[random.nextInt(edges.length)];
        }

        long upTo(int n) {
            return below(n) + 1;
        }

        long[] numbers(int method, Model model) {
            int units = model.boxes.size();
            long unit = below(units);
            switch (method) {
                case 0: return of(below(65));
                case 1: return of(below(places), random.nextBoolean() ? below(30) : below(65));
                case 2: return of(below(8), upTo(random.nextBoolean() ? 300 : 30000));
                case 3: return of(below(8), below(random.nextBoolean() ? 200 : 1001));
                case 4: return of(below(Math.min(lots, model.lots.size())), below(places), below(owners), upTo(pieces));
                case 5: return of(unit, below(places));
                case 6: return of(unit, below(units));
                case 8: return of(unit, upTo(random.nextBoolean() ? 3 : pieces));
                case 9: return of(unit, below(units));
                case 10: return of(unit, below(6));
                case 11: return of(unit, random.nextInt(9) > 0 ? below(12) : 9999999998L + random.nextInt(4));
                case 12: return of(unit, upTo(9));
                case 13: return of(unit, below(places));
                case 14: return of(unit, upTo(random.nextBoolean() ? 5000 : 100000000));
                case 15: return of(random.nextInt(20) > 0 ? model.day + random.nextInt(dayStep) : below(1001));
                case 16: return of(below(places), below(6));
                case 17: return of(below(lots + 1) - 1, below(owners + 1) - 1, below(7) - 1, below(5));
                case 18: return of(below(8), below(places));
                case 19: return of(unit, below(8), below(3));
                case 20: return of(unit, below(8));
                case 22: return of(below(5));
                default: return of(unit);
            }
        }

        /** As ints, but for a serial number, which is a long and never far above its range. */
        long[] of(long... numbers) {
            long[] all = new long[4];
            for (int i = 0; i < numbers.length; i++) {
                all[i] = numbers[i] >= 9999999998L ? numbers[i] : (int) numbers[i];
            }
            return all;
        }
    }

    private static String answer(LongSupplier call) {
        try {
            return String.valueOf(call.getAsLong());
        } catch (Refusal refusal) {
            return refusal.kind.getSimpleName();
        } catch (RuntimeException e) {
            return e.getClass().getSimpleName();
        }
    }

    public static void main(String[] args) {
        Due due = new Due();
        long[] done = new long[NAMES.length];
        long[] refused = new long[NAMES.length];
        for (int run = 0; run < RUNS; run++) {
            Caller caller = new Caller(new Random(run));
            UnitRows program = new UnitRows();
            Model model = new Model();
            for (int call = 0; call < CALLS; call++) {
                int method = call < 3 ? 3 : caller.method();
                long[] numbers = caller.numbers(method, model);
                String want = answer(() -> model.call(method, numbers));
                String got = answer(() -> callProgram(program, method, numbers));
                if (want.endsWith("Exception")) {
                    refused[method]++;
                } else {
                    done[method]++;
                }
                String what = "run " + run + ", call " + call + ": " + NAMES[method];
                if (!due.same(what + Arrays.toString(numbers), got, want)) {
                    break;
                }
            }
        }
        for (int method = 0; method < NAMES.length; method++) {
            System.out.println(NAMES[method] + ": " + done[method] + " done, " + refused[method] + " refused");
            if (done[method] < 1000 || refused[method] < 50 && method < 22) {
                due.tell("too few calls of " + NAMES[method] + " for a test");
            }
        }
        due.end();
    }
}
