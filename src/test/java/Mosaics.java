import java.util.ArrayList;
import java.util.List;

/** What the tests need over and over: mosaics to begin with, and looks at a whole course. */
abstract class Mosaics {
    static final int NONE = PebbleCourses.NONE;
    static final int LEAST = Integer.MIN_VALUE;
    static final int MOST = Integer.MAX_VALUE;

    /** A call on an object that is given later. */
    interface CallOn {
        long run(PebbleCourses x);
    }

    static PebbleCourses fresh() {
        return new PebbleCourses();
    }

    static PebbleCourses with(String text) {
        PebbleCourses x = fresh();
        type(x, text);
        x.layAll();
        return x;
    }

    static void type(PebbleCourses x, String text) {
        for (int i = 0; i < text.length(); i++) {
            x.append(text.charAt(i));
        }
    }

    static void onlyStockOf(PebbleCourses x, int size, int many) {
        for (int s = 1; s <= 6; s++) {
            x.stock(s, s == size ? many : 0);
        }
    }

    /** The joint at the cell 6 of the course 2 would run through: it meets 7 in the course 1, and that 8. */
    static PebbleCourses barredAtSix() {
        return with("a62;b61");
    }

    /** The first cells of the courses 0 and 1 have a joint each, so no pebble could be laid in the course 2. */
    static PebbleCourses barredAtAll() {
        PebbleCourses x = fresh();
        x.stock(1, 20);
        type(x, "a1111111111;b1111111111");
        x.layAll();
        return x;
    }

    /** A call saves one state, and undo brings back all that it changed. */
    static void undoable(Checks c, PebbleCourses x, CallOn call) {
        int saved = x.count(7);
        long before = x.digest();
        call.run(x);
        c.due(saved + 1, x.count(7));
        c.holds(x.digest() != before);
        c.due(saved, x.undo());
        c.due(before, x.digest());
    }

    /** The sizes along a course, as a text. */
    static String sizes(PebbleCourses x, int course) {
        StringBuilder text = new StringBuilder();
        for (int p = 0; p < x.course(course, 0); p++) {
            int size = x.cell(course, p, 0);
            text.append(size == NONE ? "." : Integer.toString(size));
        }
        return text.toString();
    }

    /** The cells of a course that have a joint. */
    static String joints(PebbleCourses x, int course) {
        List<Integer> cells = new ArrayList<>();
        for (int p = 0; p < x.course(course, 0); p++) {
            if (x.cell(course, p, 1) == 1) {
                cells.add(p);
            }
        }
        return cells.toString();
    }

    /** The digest by the words of the promise, from the other answers. */
    static long digestOf(PebbleCourses x, String buffer) {
        List<Long> values = new ArrayList<>();
        for (int what = 0; what < 8; what++) {
            values.add((long) x.count(what));
        }
        for (int setting = 0; setting < 3; setting++) {
            values.add((long) x.setting(setting));
        }
        for (int size = 1; size <= 6; size++) {
            values.add((long) x.stockOf(size));
        }
        for (int c = 0; c < 6; c++) {
            for (int what = 0; what < 7; what++) {
                values.add((long) x.course(c, what));
            }
            for (int p = 0; p < x.course(c, 0); p++) {
                values.add((long) x.cell(c, p, 0));
                values.add((long) x.cell(c, p, 3));
            }
            values.add((long) x.fewest(c));
            values.add((long) x.nextSize(c));
            for (int i = 0; i < 6; i++) {
                values.add((long) x.ifFilled(c, i / 3, i % 3));
            }
        }
        values.add((long) x.bestRule());
        values.add(Double.doubleToLongBits(x.share()));
        values.add((long) buffer.length());
        buffer.chars().forEach(code -> values.add((long) code));
        long hash = 2903;
        for (long value : values) {
            hash = 31 * hash + value;
        }
        return hash;
    }
}
