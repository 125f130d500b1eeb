import java.util.ArrayDeque;
import java.util.ArrayList;
import java.util.Arrays;
import java.util.Deque;
import java.util.List;
import java.util.Set;
import java.util.TreeSet;

/**
 * The document once more, written apart from PebbleCourses and in another way: lists of pebbles, joints as sets,
 * texts by a pattern, whole copies for undo. It is slow and plain; FuzzTest compares the two.
 */
public final class Model {
    private static final String PART = "[a-f]([1-6]!?)+";
    private static final String PEBBLES = PART + "(;" + PART + ")*";

    private record Pebble(int size, boolean isFiller) {
    }

    private static final class State {
        final List<List<Pebble>> courses = new ArrayList<>();
        int[] stock = {0, 9, 9, 9, 9, 9, 9};
        int[] settings = {32, 0, 0};
        int waste = 0;

        State() {
            for (int c = 0; c < 6; c++) {
                courses.add(new ArrayList<>());
            }
        }

        State copy() {
            State other = new State();
            for (int c = 0; c < 6; c++) {
                other.courses.get(c).addAll(courses.get(c));
            }
            other.stock = stock.clone();
            other.settings = settings.clone();
            other.waste = waste;
            return other;
        }
    }

    private State now = new State();
    private final Deque<State> saved = new ArrayDeque<>();
    private String buffer = "";

    private void save() {
        saved.addLast(now.copy());
        if (saved.size() > 6) {
            saved.removeFirst();
        }
    }

    private static void index(boolean isWrong) {
        if (isWrong) {
            throw new IndexOutOfBoundsException();
        }
    }

    private static void argument(boolean isWrong) {
        if (isWrong) {
            throw new IllegalArgumentException();
        }
    }

    private static void state(boolean isWrong) {
        if (isWrong) {
            throw new IllegalStateException();
        }
    }

    private static boolean isOut(int value, int least, int greatest) {
        return value < least || value > greatest;
    }

    private static int ring(State s, int c) {
        return s.settings[0] - 4 * c;
    }

    private static int length(State s, int c) {
        return s.courses.get(c).stream().mapToInt(Pebble::size).sum();
    }

    private static boolean closed(State s, int c) {
        return length(s, c) == ring(s, c);
    }

    private static Set<Integer> jointSet(State s, int c) {
        Set<Integer> joints = new TreeSet<>();
        int at = 0;
        for (Pebble pebble : s.courses.get(c)) {
            joints.add(at);
            at += pebble.size();
        }
        if (!s.courses.get(c).isEmpty() && at != ring(s, c)) {
            joints.add(at);
        }
        return joints;
    }

    private static int outside(State s, int c, int p) {
        return (int) Math.floor((double) (p * ring(s, c - 1)) / ring(s, c) + 1e-9);
    }

    private static boolean through(State s, int c, int p) {
        if (c < 2 || p == 0) {
            return false;
        }
        int q = outside(s, c, p);
        return jointSet(s, c - 1).contains(q) && jointSet(s, c - 2).contains(outside(s, c - 1, q));
    }

    private static int reason(State s, int c, int size, boolean isFiller) {
        int free = ring(s, c) - length(s, c);
        if (free == 0) {
            return 1;
        }
        if (size > free) {
            return 2;
        }
        if (isFiller ? greater(s, size) == 0 : s.stock[size] == 0) {
            return 3;
        }
        int joint = length(s, c) + size;
        return joint != ring(s, c) && through(s, c, joint) ? 4 : 0;
    }

    private static int greater(State s, int size) {
        for (int g = size + 1; g <= 6; g++) {
            if (s.stock[g] > 0) {
                return g;
            }
        }
        return 0;
    }

    private static void put(State s, int c, int size, boolean isFiller) {
        int from = isFiller ? greater(s, size) : size;
        s.stock[from]--;
        s.waste += from - size;
        s.courses.get(c).add(new Pebble(size, isFiller));
    }

    private static List<Integer> allowed(State s, int c, boolean isFiller) {
        List<Integer> sizes = new ArrayList<>();
        for (int size = 6; size >= 1; size--) {
            if (reason(s, c, size, isFiller) == 0) {
                sizes.add(size);
            }
        }
        return sizes;
    }

    private static int fillOne(State s, int c, int rule) {
        int before = s.courses.get(c).size();
        while (true) {
            List<Integer> sizes = allowed(s, c, false);
            while (!sizes.isEmpty()) {
                int chosen = sizes.get(0);
                if (rule == 1) {
                    chosen = sizes.get(sizes.size() - 1);
                } else if (rule == 2) {
                    for (int size : sizes) {
                        chosen = s.stock[size] > s.stock[chosen] ? size : chosen;
                    }
                }
                put(s, c, chosen, false);
                sizes = allowed(s, c, false);
            }
            List<Integer> fillers = s.settings[2] == 1 ? allowed(s, c, true) : List.of();
            if (fillers.isEmpty()) {
                return s.courses.get(c).size() - before;
            }
            put(s, c, fillers.get(0), true);
        }
    }

    public int stock(int size, int many) {
        argument(isOut(size, 1, 6) || isOut(many, 0, 99));
        save();
        int had = now.stock[size];
        now.stock[size] = many;
        return had;
    }

    public int lay(int course, int size) {
        index(isOut(course, 0, 5));
        argument(isOut(size, 1, 6));
        state(reason(now, course, size, false) != 0);
        save();
        int at = length(now, course);
        put(now, course, size, false);
        return at;
    }

    public int cut(int course, int size) {
        index(isOut(course, 0, 5));
        argument(isOut(size, 1, 6));
        state(reason(now, course, size, true) != 0);
        save();
        int waste = now.waste;
        put(now, course, size, true);
        return now.waste - waste;
    }

    public int takeUp(int course, int many) {
        index(isOut(course, 0, 5));
        argument(isOut(many, 1, 60));
        save();
        List<Pebble> pebbles = now.courses.get(course);
        int up = Math.min(many, pebbles.size());
        for (int i = 0; i < up; i++) {
            int size = pebbles.remove(pebbles.size() - 1).size();
            if (now.stock[size] == 99) {
                now.waste += size;
            } else {
                now.stock[size]++;
            }
        }
        return up;
    }

    public int fill(int course) {
        index(isOut(course, 0, 5));
        save();
        return fillOne(now, course, now.settings[1]);
    }

    public int fillAll() {
        save();
        return fillEach(now, now.settings[1]);
    }

    private static int fillEach(State s, int rule) {
        int closed = 0;
        for (int c = 0; c < 6; c++) {
            fillOne(s, c, rule);
            closed += closed(s, c) ? 1 : 0;
        }
        return closed;
    }

    public int set(int setting, int value) {
        index(isOut(setting, 0, 2));
        argument(setting == 0 ? isOut(value, 24, 60) : isOut(value, 0, setting == 1 ? 2 : 1));
        state(setting == 0 && count(0) > 0);
        save();
        int previous = now.settings[setting];
        now.settings[setting] = value;
        return previous;
    }

    public int append(int code) {
        argument(isOut(code, 33, 126));
        state(buffer.length() == 60);
        buffer += (char) code;
        return buffer.length();
    }

    public int clearBuffer() {
        int length = buffer.length();
        buffer = "";
        return length;
    }

    private static boolean canBegin(String text) {
        return (text).matches(PEBBLES) || (text + "1").matches(PEBBLES) || (text + "a1").matches(PEBBLES);
    }

    public int firstError() {
        int right = 0;
        while (right < buffer.length() && canBegin(buffer.substring(0, right + 1))) {
            right++;
        }
        return right;
    }

    public int layAll() {
        argument(!buffer.matches(PEBBLES));
        save();
        int laid = 0;
        boolean isRefused = false;
        for (String part : buffer.split(";")) {
            int c = part.charAt(0) - 'a';
            for (String pebble : part.substring(1).split("(?=[1-6])")) {
                int size = pebble.charAt(0) - '0';
                boolean isFiller = pebble.length() == 2;
                isRefused = isRefused || reason(now, c, size, isFiller) != 0;
                if (!isRefused) {
                    put(now, c, size, isFiller);
                    laid++;
                }
            }
        }
        buffer = "";
        return laid;
    }

    public int undo() {
        state(saved.isEmpty());
        now = saved.removeLast();
        return saved.size();
    }

    public int course(int course, int what) {
        index(isOut(course, 0, 5));
        argument(isOut(what, 0, 6));
        return property(now, course, what);
    }

    private static int property(State s, int c, int what) {
        switch (what) {
            case 0:
                return ring(s, c);
            case 1:
                return s.courses.get(c).size();
            case 2:
                return ring(s, c) - length(s, c);
            case 3:
                return closed(s, c) ? 1 : 0;
            case 4:
                return jointSet(s, c).size();
            case 5:
                return c == 0 ? 0 : (int) jointSet(s, c).stream()
                        .filter(p -> p != 0 && jointSet(s, c - 1).contains(outside(s, c, p))).count();
            default:
                return (int) s.courses.get(c).stream().filter(Pebble::isFiller).count();
        }
    }

    public int cell(int course, int cell, int what) {
        index(isOut(course, 0, 5) || isOut(cell, 0, ring(now, course) - 1));
        argument(isOut(what, 0, 3));
        switch (what) {
            case 0:
                int end = 0;
                for (Pebble pebble : now.courses.get(course)) {
                    end += pebble.size();
                    if (cell < end) {
                        return pebble.size();
                    }
                }
                return -1;
            case 1:
                return jointSet(now, course).contains(cell) ? 1 : 0;
            case 2:
                return course == 0 ? -1 : outside(now, course, cell);
            default:
                return through(now, course, cell) ? 1 : 0;
        }
    }

    public int refusal(int course, int size, boolean isFiller) {
        index(isOut(course, 0, 5));
        argument(isOut(size, 1, 6));
        return reason(now, course, size, isFiller);
    }

    public int stockOf(int size) {
        argument(isOut(size, 1, 6));
        return now.stock[size];
    }

    public int count(int what) {
        argument(isOut(what, 0, 7));
        int sum = 0;
        switch (what) {
            case 3:
                for (int c = 0; c < 6; c++) {
                    for (int p : jointSet(now, c)) {
                        sum += through(now, c, p) ? 1 : 0;
                    }
                }
                return sum;
            case 5:
                return now.waste;
            case 6:
                for (int size = 1; size <= 6; size++) {
                    sum += size * now.stock[size];
                }
                return sum;
            case 7:
                return saved.size();
            default:
                int[] property = {1, 3, 4, 0, 6};
                for (int c = 0; c < 6; c++) {
                    sum += property(now, c, property[what]);
                }
                return sum;
        }
    }

    public int setting(int setting) {
        index(isOut(setting, 0, 2));
        return now.settings[setting];
    }

    /** By waves of cells that can be reached with one pebble more. */
    private int waves(int c, int from) {
        Set<Integer> reached = new TreeSet<>(List.of(from));
        for (int pebbles = 0; !reached.isEmpty(); pebbles++) {
            if (reached.contains(ring(now, c))) {
                return pebbles;
            }
            Set<Integer> next = new TreeSet<>();
            for (int p : reached) {
                for (int q = p + 1; q <= p + 6 && q <= ring(now, c); q++) {
                    if (q == ring(now, c) || !through(now, c, q)) {
                        next.add(q);
                    }
                }
            }
            reached = next;
        }
        return -1;
    }

    public int fewest(int course) {
        index(isOut(course, 0, 5));
        return waves(course, length(now, course));
    }

    public int nextSize(int course) {
        int fewest = fewest(course);
        int at = length(now, course);
        for (int size = 6; size >= 1 && fewest > 0; size--) {
            boolean fits = at + size == ring(now, course)
                    || at + size < ring(now, course) && !through(now, course, at + size);
            if (fits && waves(course, at + size) == fewest - 1) {
                return size;
            }
        }
        return -1;
    }

    public int ifFilled(int course, int rule, int what) {
        index(isOut(course, 0, 5));
        argument(isOut(rule, 0, 2) || isOut(what, 0, 2));
        State then = now.copy();
        int laid = fillOne(then, course, rule);
        return what == 0 ? property(then, course, 2) : what == 1 ? laid : property(then, course, 5);
    }

    public int bestRule() {
        int[][] ranks = new int[3][];
        for (int rule = 0; rule < 3; rule++) {
            State then = now.copy();
            int closed = fillEach(then, rule);
            int pebbles = then.courses.stream().mapToInt(List::size).sum();
            ranks[rule] = new int[] {-closed, then.waste, pebbles, rule};
        }
        Arrays.sort(ranks, Arrays::compare);
        return ranks[0][3];
    }

    public double share() {
        int taken = 0;
        int all = 0;
        for (int c = 0; c < 6; c++) {
            taken += length(now, c);
            all += ring(now, c);
        }
        return (double) taken / all;
    }

    public long digest() {
        List<Long> values = new ArrayList<>();
        for (int what = 0; what < 8; what++) {
            values.add((long) count(what));
        }
        for (int value : now.settings) {
            values.add((long) value);
        }
        for (int size = 1; size <= 6; size++) {
            values.add((long) now.stock[size]);
        }
        for (int c = 0; c < 6; c++) {
            for (int what = 0; what < 7; what++) {
                values.add((long) course(c, what));
            }
            for (int p = 0; p < ring(now, c); p++) {
                values.add((long) cell(c, p, 0));
                values.add((long) cell(c, p, 3));
            }
            values.add((long) fewest(c));
            values.add((long) nextSize(c));
            for (int i = 0; i < 6; i++) {
                values.add((long) ifFilled(c, i / 3, i % 3));
            }
        }
        values.add((long) bestRule());
        values.add(Double.doubleToLongBits(share()));
        values.add((long) buffer.length());
        for (char sign : buffer.toCharArray()) {
            values.add((long) sign);
        }
        long hash = 2903;
        for (long value : values) {
            hash = 31 * hash + value;
        }
        return hash;
    }
}
