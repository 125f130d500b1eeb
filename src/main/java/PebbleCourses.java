/**
 * A pebble mosaic laid in six ring courses, one within the other, from a stock of pebbles by size.
 * The document ../shared/DOC.md says what each call does and answers.
 */
public final class PebbleCourses {
    /** There is nothing to return. */
    public static final int NONE = -1;

    private static final int COURSES = 6;
    private static final int LEAST_CELLS = 24;
    private static final int MOST_CELLS = 60;
    private static final int FIRST_CELLS = 32;
    private static final int CELLS_LESS = 4;
    private static final int GREATEST_SIZE = 6;
    private static final int FIRST_STOCK = 9;
    private static final int MOST_STOCK = 99;
    private static final int MOST_TAKEN_UP = 60;
    private static final int MOST_SIGNS = 60;
    private static final int LEAST_CODE = 33;
    private static final int GREATEST_CODE = 126;
    private static final int MOST_SAVED = 6;

    private static final int SETTINGS = 3;
    private static final int CELLS_SETTING = 0;
    private static final int RULE_SETTING = 1;
    private static final int RULES = 3;
    private static final int RULE_GREATEST = 0;
    private static final int RULE_MOST_STOCK = 2;

    private static final int CELLS = 0;
    private static final int PEBBLES = 1;
    private static final int FREE = 2;
    private static final int CLOSED = 3;
    private static final int JOINTS = 4;
    private static final int MEETING_JOINTS = 5;
    private static final int FILLERS = 6;
    private static final int PROPERTIES = 7;
    private static final int CELL_ANSWERS = 4;
    private static final int COUNTS = 8;
    private static final int FILLED_ANSWERS = 3;
    private static final int DIGEST_RULES = 2;
    private static final long DIGEST_START = 2903L;

    private final Mosaic mosaic = new Mosaic();
    /** Where fillings are tried out; what lies in it between calls means nothing. */
    private final Mosaic trial = new Mosaic();
    private final Closing closing = new Closing();
    private final History history = new History();
    private final Text text = new Text();

    /** Creates empty courses, with an empty buffer. */
    public PebbleCourses() {
    }

    // ---- pebbles

    /** Changes the stock. Undoable. Returns what the stock had of the size. */
    public int stock(int size, int many) throws IllegalArgumentException {
        needSize(size);
        needArgument(many >= 0 && many <= MOST_STOCK);
        history.save(mosaic);
        return mosaic.changeStock(size, many);
    }

    /** Lays a pebble. Undoable. Returns the cell at which it begins. */
    public int lay(int course, int size)
            throws IndexOutOfBoundsException, IllegalArgumentException, IllegalStateException {
        needCourse(course);
        needSize(size);
        needState(mosaic.reasonAgainst(course, size, false) == 0);
        history.save(mosaic);
        int begin = mosaic.takenOf(course);
        mosaic.put(course, size, false);
        return begin;
    }

    /** Cuts a filler. Undoable. Returns what of the greater pebble is waste. */
    public int cut(int course, int size)
            throws IndexOutOfBoundsException, IllegalArgumentException, IllegalStateException {
        needCourse(course);
        needSize(size);
        needState(mosaic.reasonAgainst(course, size, true) == 0);
        history.save(mosaic);
        return mosaic.put(course, size, true);
    }

    /** Takes up the last pebbles of a course. Undoable. Returns how many are taken up. */
    public int takeUp(int course, int many) throws IndexOutOfBoundsException, IllegalArgumentException {
        needCourse(course);
        needArgument(many >= 1 && many <= MOST_TAKEN_UP);
        history.save(mosaic);
        return mosaic.takeUpLast(course, many);
    }

    /** Fills a course. Undoable. Returns how many pebbles are laid by it, fillers, too. */
    public int fill(int course) throws IndexOutOfBoundsException {
        needCourse(course);
        history.save(mosaic);
        return mosaic.fillCourse(course, mosaic.settingOf(RULE_SETTING));
    }

    /** Fills all courses, from the course 0 on. Undoable, as one call. Returns how many are closed then. */
    public int fillAll() {
        history.save(mosaic);
        int rule = mosaic.settingOf(RULE_SETTING);
        for (int c = 0; c < COURSES; c++) {
            mosaic.fillCourse(c, rule);
        }
        return mosaic.summed(CLOSED);
    }

    /** Changes a setting. Undoable. Returns the previous value. */
    public int set(int setting, int value)
            throws IndexOutOfBoundsException, IllegalArgumentException, IllegalStateException {
        needSetting(setting);
        needArgument(isSettingValue(setting, value));
        needState(setting != CELLS_SETTING || mosaic.summed(PEBBLES) == 0);
        history.save(mosaic);
        int previous = mosaic.settingOf(setting);
        mosaic.changeSetting(setting, value);
        return previous;
    }

    // ---- texts

    /** Appends a character to the buffer. Returns the new length of the buffer. */
    public int append(int code) throws IllegalArgumentException, IllegalStateException {
        needArgument(code >= LEAST_CODE && code <= GREATEST_CODE);
        needState(text.length() < MOST_SIGNS);
        return text.add((char) code);
    }

    /** Clears the buffer. Returns the length that it had. */
    public int clearBuffer() {
        return text.drop();
    }

    /** Returns the index of the first character that is a syntax error, or the length of the buffer. */
    public int firstError() {
        return text.wrongAt();
    }

    /** Lays the pebbles in the buffer, up to the first refused one. Undoable. Returns how many are laid. */
    public int layAll() throws IllegalArgumentException {
        needArgument(text.isComplete());
        history.save(mosaic);
        int laid = 0;
        int c = 0;
        int length = text.length();
        for (int i = 0; i < length; i++) {
            char sign = text.signAt(i);
            if (Text.isCourse(sign)) {
                c = sign - 'a';
            } else if (Text.isSize(sign)) {
                int size = sign - '0';
                boolean isFiller = text.signAt(i + 1) == '!';
                if (mosaic.reasonAgainst(c, size, isFiller) != 0) {
                    break;
                }
                mosaic.put(c, size, isFiller);
                laid++;
            }
        }
        text.drop();
        return laid;
    }

    /** Restores the latest saved state, and drops it. Returns how many saved states are left. */
    public int undo() throws IllegalStateException {
        needState(history.size() > 0);
        history.restore(mosaic);
        return history.size();
    }

    // ---- looks; nothing is changed

    /** Returns a property of a course. */
    public int course(int course, int what) throws IndexOutOfBoundsException, IllegalArgumentException {
        needCourse(course);
        needArgument(what >= 0 && what < PROPERTIES);
        return mosaic.property(course, what);
    }

    /** Returns something of a cell. */
    public int cell(int course, int cell, int what) throws IndexOutOfBoundsException, IllegalArgumentException {
        needCourse(course);
        needIndex(cell >= 0 && cell < mosaic.cellsOf(course));
        needArgument(what >= 0 && what < CELL_ANSWERS);
        switch (what) {
            case 0:
                return mosaic.sizeAt(course, cell);
            case 1:
                return numberOf(mosaic.hasJoint(course, cell));
            case 2:
                return mosaic.meets(course, cell);
            default:
                return numberOf(mosaic.runsThrough(course, cell));
        }
    }

    /** Returns the reason why a pebble would be refused, 1 to 4, 0 if it would not be. */
    public int refusal(int course, int size, boolean isFiller)
            throws IndexOutOfBoundsException, IllegalArgumentException {
        needCourse(course);
        needSize(size);
        return mosaic.reasonAgainst(course, size, isFiller);
    }

    /** Returns how many pebbles of a size the stock has. */
    public int stockOf(int size) throws IllegalArgumentException {
        needSize(size);
        return mosaic.inStock(size);
    }

    /** Returns a number. */
    public int count(int what) throws IllegalArgumentException {
        needArgument(what >= 0 && what < COUNTS);
        switch (what) {
            case 0:
                return mosaic.summed(PEBBLES);
            case 1:
                return mosaic.summed(CLOSED);
            case 2:
                return mosaic.summed(JOINTS);
            case 3:
                return mosaic.throughJoints();
            case 4:
                return mosaic.summed(FILLERS);
            case 5:
                return mosaic.wasted();
            case 6:
                return mosaic.stockCells();
            default:
                return history.size();
        }
    }

    /** Returns a setting. */
    public int setting(int setting) throws IndexOutOfBoundsException {
        needSetting(setting);
        return mosaic.settingOf(setting);
    }

    // ---- what would be; nothing is changed

    /** Returns how many more pebbles, at least, would close a course, the stock aside. */
    public int fewest(int course) throws IndexOutOfBoundsException {
        needCourse(course);
        closing.find(mosaic, course);
        return closing.pebbles();
    }

    /** Returns the greatest size with which such a closing can begin. */
    public int nextSize(int course) throws IndexOutOfBoundsException {
        needCourse(course);
        closing.find(mosaic, course);
        return closing.firstSize();
    }

    /** Tells what filling a course would bring. */
    public int ifFilled(int course, int rule, int what) throws IndexOutOfBoundsException, IllegalArgumentException {
        needCourse(course);
        needArgument(rule >= 0 && rule < RULES);
        needArgument(what >= 0 && what < FILLED_ANSWERS);
        trial.become(mosaic);
        int laid = trial.fillCourse(course, rule);
        switch (what) {
            case 0:
                return trial.freeOf(course);
            case 1:
                return laid;
            default:
                return trial.meetingJointsOf(course);
        }
    }

    /** Returns the rule by which fillAll() would be best. */
    public int bestRule() {
        int best = NONE;
        int bestClosed = 0;
        int bestWaste = 0;
        int bestPebbles = 0;
        for (int rule = 0; rule < RULES; rule++) {
            trial.become(mosaic);
            for (int c = 0; c < COURSES; c++) {
                trial.fillCourse(c, rule);
            }
            int closed = trial.summed(CLOSED);
            int waste = trial.wasted();
            int pebbles = trial.summed(PEBBLES);
            boolean isBetter = closed != bestClosed ? closed > bestClosed
                    : waste != bestWaste ? waste < bestWaste : pebbles < bestPebbles;
            if (best == NONE || isBetter) {
                best = rule;
                bestClosed = closed;
                bestWaste = waste;
                bestPebbles = pebbles;
            }
        }
        return best;
    }

    /** Returns the cells that are taken, divided by the cells of all courses. */
    public double share() {
        int all = mosaic.summed(CELLS);
        int taken = all - mosaic.summed(FREE);
        return all > 0 ? (double) taken / (double) all : 0.0;
    }

    /** Computes a hash of the whole state. */
    public long digest() {
        long hash = DIGEST_START;
        for (int what = 0; what < COUNTS; what++) {
            hash = mixed(hash, count(what));
        }
        for (int setting = 0; setting < SETTINGS; setting++) {
            hash = mixed(hash, mosaic.settingOf(setting));
        }
        for (int size = 1; size <= GREATEST_SIZE; size++) {
            hash = mixed(hash, mosaic.inStock(size));
        }
        for (int c = 0; c < COURSES; c++) {
            hash = mixedWithCourse(hash, c);
        }
        hash = mixed(hash, bestRule());
        hash = mixed(hash, bitsOf(share()));
        int length = text.length();
        hash = mixed(hash, length);
        for (int i = 0; i < length; i++) {
            hash = mixed(hash, text.signAt(i));
        }
        return hash;
    }

    private long mixedWithCourse(long before, int c) {
        long hash = before;
        for (int what = 0; what < PROPERTIES; what++) {
            hash = mixed(hash, mosaic.property(c, what));
        }
        int cells = mosaic.cellsOf(c);
        for (int p = 0; p < cells; p++) {
            hash = mixed(hash, mosaic.sizeAt(c, p));
            hash = mixed(hash, numberOf(mosaic.runsThrough(c, p)));
        }
        closing.find(mosaic, c);
        hash = mixed(hash, closing.pebbles());
        hash = mixed(hash, closing.firstSize());
        for (int rule = 0; rule < DIGEST_RULES; rule++) {
            trial.become(mosaic);
            int laid = trial.fillCourse(c, rule);
            hash = mixed(hash, trial.freeOf(c));
            hash = mixed(hash, laid);
            hash = mixed(hash, trial.meetingJointsOf(c));
        }
        return hash;
    }

    private static long mixed(long hash, long value) {
        return 31 * hash + value;
    }

    /** The bits of a share, 0 to 1; by hand, because LANGUAGE.md leaves Double out. Each step is exact. */
    private static long bitsOf(double share) {
        if (!(share > 0.0)) {
            return 0L;
        }
        double scaled = share;
        long exponent = 1023L;
        for (int i = 0; i < 64 && scaled < 1.0; i++) {
            scaled = scaled * 2.0;
            exponent--;
        }
        return (exponent << 52) + (long) ((scaled - 1.0) * (double) (1L << 52));
    }

    private static int numberOf(boolean holds) {
        return holds ? 1 : 0;
    }

    private static boolean isSettingValue(int setting, int value) {
        if (setting == CELLS_SETTING) {
            return value >= LEAST_CELLS && value <= MOST_CELLS;
        }
        return value >= 0 && value < (setting == RULE_SETTING ? RULES : 2);
    }

    private static void needCourse(int course) {
        needIndex(course >= 0 && course < COURSES);
    }

    private static void needSetting(int setting) {
        needIndex(setting >= 0 && setting < SETTINGS);
    }

    private static void needSize(int size) {
        needArgument(size >= 1 && size <= GREATEST_SIZE);
    }

    private static void needIndex(boolean holds) {
        if (!holds) {
            throw new IndexOutOfBoundsException("there is no such course, cell or setting");
        }
    }

    private static void needArgument(boolean holds) {
        if (!holds) {
            throw new IllegalArgumentException("an argument is out of range, or the buffer is not complete");
        }
    }

    private static void needState(boolean holds) {
        if (!holds) {
            throw new IllegalStateException("it is refused in this state");
        }
    }

    /** All that undo brings back: the courses, the stock, the settings and the waste. */
    private static final class Mosaic {
        /** The cells of each course; those of the course 0 are the setting 0. */
        private final int[] cells = new int[COURSES];
        /** How many cells of each course are taken; the next pebble begins behind them. */
        private final int[] taken = new int[COURSES];
        /** At the cell where a pebble begins its size, below 0 for a filler; 0 at all other cells. */
        private final int[] begins = new int[COURSES * MOST_CELLS];
        /** By size; the element 0 is never used. */
        private final int[] stock = new int[GREATEST_SIZE + 1];
        private int rule;
        private int cutting;
        private int waste;

        Mosaic() {
            for (int c = 0; c < cells.length; c++) {
                cells[c] = FIRST_CELLS - CELLS_LESS * c;
            }
            for (int size = 1; size < stock.length; size++) {
                stock[size] = FIRST_STOCK;
            }
        }

        void become(Mosaic other) {
            if (other == null) {
                return;
            }
            copy(other.cells, cells);
            copy(other.taken, taken);
            copy(other.begins, begins);
            copy(other.stock, stock);
            rule = other.rule;
            cutting = other.cutting;
            waste = other.waste;
        }

        private static void copy(int[] from, int[] to) {
            System.arraycopy(from, 0, to, 0, Math.min(from.length, to.length));
        }

        private static boolean isCourse(int c) {
            return c >= 0 && c < COURSES;
        }

        private static boolean isSize(int size) {
            return size >= 1 && size <= GREATEST_SIZE;
        }

        int settingOf(int setting) {
            return setting == CELLS_SETTING ? cells[0] : setting == RULE_SETTING ? rule : cutting;
        }

        void changeSetting(int setting, int value) {
            if (setting == CELLS_SETTING) {
                for (int c = 0; c < cells.length; c++) {
                    cells[c] = value - CELLS_LESS * c;
                }
            } else if (setting == RULE_SETTING) {
                rule = value;
            } else {
                cutting = value;
            }
        }

        int inStock(int size) {
            return size >= 1 && size <= GREATEST_SIZE ? stock[size] : 0;
        }

        int changeStock(int size, int many) {
            if (!isSize(size)) {
                return 0;
            }
            int previous = stock[size];
            stock[size] = many;
            return previous;
        }

        int wasted() {
            return waste;
        }

        int cellsOf(int c) {
            return isCourse(c) ? cells[c] : 0;
        }

        int takenOf(int c) {
            return isCourse(c) ? taken[c] : 0;
        }

        int freeOf(int c) {
            return isCourse(c) ? cells[c] - taken[c] : 0;
        }

        /** The cell that a cell meets in the course outside, NONE for the course 0. */
        int meets(int c, int p) {
            if (c < 1 || c >= COURSES || cells[c] < 1) {
                return NONE;
            }
            return p * cells[c - 1] / cells[c];
        }

        // Joints are asked for most deeply of all, so this one calls nothing.
        boolean hasJoint(int c, int p) {
            if (c < 0 || c >= COURSES || p < 0 || p >= MOST_CELLS || p >= cells[c]) {
                return false;
            }
            boolean isBehindLast = p > 0 && p == taken[c];
            return isBehindLast || begins[c * MOST_CELLS + p] != 0;
        }

        /** Whether a joint at a cell would run through three courses, if there were one. */
        boolean runsThrough(int c, int p) {
            if (c < 2 || p < 1) {
                return false;
            }
            int outside = meets(c, p);
            return hasJoint(c - 1, outside) && hasJoint(c - 2, meets(c - 1, outside));
        }

        /** The size in stock that a pebble or a filler would be taken from, 0 if there is none. */
        private int sourceOf(int size, boolean isFiller) {
            if (!isFiller) {
                return inStock(size) > 0 ? size : 0;
            }
            for (int greater = size + 1; greater <= GREATEST_SIZE; greater++) {
                if (inStock(greater) > 0) {
                    return greater;
                }
            }
            return 0;
        }

        int reasonAgainst(int c, int size, boolean isFiller) {
            int free = freeOf(c);
            if (free == 0) {
                return 1;
            }
            if (size > free) {
                return 2;
            }
            if (sourceOf(size, isFiller) == 0) {
                return 3;
            }
            return size < free && runsThrough(c, takenOf(c) + size) ? 4 : 0;
        }

        /** Lays a pebble or a filler that is not refused; returns what is wasted by it. */
        int put(int c, int size, boolean isFiller) {
            int source = sourceOf(size, isFiller);
            if (!isCourse(c) || !isSize(source)) {
                return 0;
            }
            int index = c * MOST_CELLS + taken[c];
            if (taken[c] >= MOST_CELLS || index < 0 || index >= begins.length) {
                return 0;
            }
            begins[index] = isFiller ? -size : size;
            taken[c] += size;
            stock[source]--;
            waste += source - size;
            return source - size;
        }

        /** Takes up as many of the last pebbles of a course, or all; returns how many. */
        int takeUpLast(int c, int many) {
            if (!isCourse(c)) {
                return 0;
            }
            int up = 0;
            for (int p = Math.min(taken[c], MOST_CELLS) - 1; p >= 0 && up < many; p--) {
                if (begins[c * MOST_CELLS + p] != 0) {
                    begins[c * MOST_CELLS + p] = 0;
                    bringBack(taken[c] - p);
                    taken[c] = p;
                    up++;
                }
            }
            return up;
        }

        private void bringBack(int size) {
            if (!isSize(size)) {
                return;
            }
            if (stock[size] < MOST_STOCK) {
                stock[size]++;
            } else {
                waste += size;
            }
        }

        private int beginAt(int c, int p) {
            return isCourse(c) && p >= 0 && p < MOST_CELLS ? begins[c * MOST_CELLS + p] : 0;
        }

        /** The size of the pebble that lies at a cell, NONE if none does. */
        int sizeAt(int c, int p) {
            if (p >= takenOf(c)) {
                return NONE;
            }
            for (int begin = p; begin >= 0; begin--) {
                int size = beginAt(c, begin);
                if (size != 0) {
                    return Math.abs(size);
                }
            }
            return NONE;
        }

        /** Fills a course by a rule, with fillers if they are cut; returns how many are laid. */
        int fillCourse(int c, int byRule) {
            int laid = 0;
            while (laid < MOST_CELLS) {
                int size = sizeByRule(c, byRule);
                boolean isFiller = size == 0 && cutting == 1;
                if (isFiller) {
                    size = greatestFiller(c);
                }
                if (size == 0) {
                    break;
                }
                put(c, size, isFiller);
                laid++;
            }
            return laid;
        }

        private int sizeByRule(int c, int byRule) {
            int chosen = 0;
            for (int size = 1; size <= GREATEST_SIZE; size++) {
                boolean comesFirst = chosen == 0 || byRule == RULE_GREATEST
                        || byRule == RULE_MOST_STOCK && inStock(size) >= inStock(chosen);
                if (comesFirst && reasonAgainst(c, size, false) == 0) {
                    chosen = size;
                }
            }
            return chosen;
        }

        private int greatestFiller(int c) {
            for (int size = GREATEST_SIZE; size > 0; size--) {
                if (reasonAgainst(c, size, true) == 0) {
                    return size;
                }
            }
            return 0;
        }

        private int pebblesOf(int c) {
            int many = 0;
            int end = takenOf(c);
            for (int p = 0; p < end; p++) {
                many += beginAt(c, p) != 0 ? 1 : 0;
            }
            return many;
        }

        private int fillersOf(int c) {
            int many = 0;
            int end = takenOf(c);
            for (int p = 0; p < end; p++) {
                many += beginAt(c, p) < 0 ? 1 : 0;
            }
            return many;
        }

        private int jointsOf(int c) {
            int many = 0;
            int end = cellsOf(c);
            for (int p = 0; p < end; p++) {
                many += hasJoint(c, p) ? 1 : 0;
            }
            return many;
        }

        /** Joints, but that at 0, that meet a joint in the course outside. */
        int meetingJointsOf(int c) {
            int many = 0;
            int end = cellsOf(c);
            for (int p = 1; p < end; p++) {
                many += hasJoint(c, p) && hasJoint(c - 1, meets(c, p)) ? 1 : 0;
            }
            return many;
        }

        int property(int c, int what) {
            switch (what) {
                case CELLS:
                    return cellsOf(c);
                case PEBBLES:
                    return pebblesOf(c);
                case FREE:
                    return freeOf(c);
                case CLOSED:
                    return freeOf(c) == 0 ? 1 : 0;
                case JOINTS:
                    return jointsOf(c);
                case MEETING_JOINTS:
                    return meetingJointsOf(c);
                default:
                    return fillersOf(c);
            }
        }

        /** A property of all courses together. */
        int summed(int what) {
            int sum = 0;
            for (int c = 0; c < COURSES; c++) {
                sum += property(c, what);
            }
            return sum;
        }

        int throughJoints() {
            int many = 0;
            for (int c = 2; c < COURSES; c++) {
                int end = cellsOf(c);
                for (int p = 1; p < end; p++) {
                    many += hasJoint(c, p) && runsThrough(c, p) ? 1 : 0;
                }
            }
            return many;
        }

        int stockCells() {
            int sum = 0;
            for (int size = 1; size <= GREATEST_SIZE; size++) {
                sum += size * inStock(size);
            }
            return sum;
        }
    }

    /** The closing of a course by the fewest pebbles, the stock aside. */
    private static final class Closing {
        /** By cell: the fewest pebbles from there to the end, NONE if there is no way. */
        private final int[] fewestFrom = new int[MOST_CELLS + 1];
        private int found;
        private int first;

        /** Looks from the end back; the joint where the course stands now is there already, so it may run through. */
        void find(Mosaic mosaic, int c) {
            found = 0;
            first = NONE;
            if (mosaic == null) {
                return;
            }
            int begin = mosaic.takenOf(c);
            int end = mosaic.cellsOf(c);
            if (begin < 0 || end > MOST_CELLS || begin >= end) {
                return;
            }
            fewestFrom[end] = 0;
            for (int p = end - 1; p >= begin; p--) {
                boolean isBarred = p > begin && mosaic.runsThrough(c, p);
                first = isBarred ? NONE : bestSize(p, end);
                found = first == NONE ? NONE : pebblesFrom(p + first) + 1;
                fewestFrom[p] = found;
            }
        }

        private int bestSize(int p, int end) {
            int best = NONE;
            for (int size = 1; size <= GREATEST_SIZE && size <= end - p; size++) {
                int pebbles = pebblesFrom(p + size);
                if (pebbles != NONE && (best == NONE || pebbles <= pebblesFrom(p + best))) {
                    best = size;
                }
            }
            return best;
        }

        private int pebblesFrom(int p) {
            return p >= 0 && p < fewestFrom.length ? fewestFrom[p] : NONE;
        }

        int pebbles() {
            return found;
        }

        int firstSize() {
            return first;
        }
    }

    /** The saved states, in a ring of places that are used again. */
    private static final class History {
        private final Mosaic[] saved = new Mosaic[MOST_SAVED];
        private int next;
        private int many;

        History() {
            for (int i = 0; i < saved.length; i++) {
                saved[i] = new Mosaic();
            }
        }

        int size() {
            return many;
        }

        void save(Mosaic now) {
            Mosaic place = placeAt(next);
            if (place == null) {
                return;
            }
            place.become(now);
            next = (next + 1) % MOST_SAVED;
            many = Math.min(many + 1, MOST_SAVED);
        }

        void restore(Mosaic now) {
            int latest = (next + MOST_SAVED - 1) % MOST_SAVED;
            if (many == 0 || now == null) {
                return;
            }
            now.become(placeAt(latest));
            next = latest;
            many--;
        }

        private Mosaic placeAt(int i) {
            return i >= 0 && i < saved.length ? saved[i] : null;
        }
    }

    /** The buffer. */
    private static final class Text {
        private final char[] signs = new char[MOST_SIGNS];
        private int length;

        int length() {
            return length;
        }

        int add(char sign) {
            if (length >= 0 && length < signs.length) {
                signs[length] = sign;
                length++;
            }
            return length;
        }

        int drop() {
            int previous = length;
            length = 0;
            return previous;
        }

        /** The character at an index, the code 0 if there is none. */
        char signAt(int i) {
            return i >= 0 && i < length && i < signs.length ? signs[i] : (char) 0;
        }

        static boolean isCourse(char sign) {
            return sign >= 'a' && sign <= 'f';
        }

        static boolean isSize(char sign) {
            return sign >= '1' && sign <= '6';
        }

        // What may follow depends on the character before alone; the beginning is as behind a ";".
        private static boolean mayFollow(char before, char sign) {
            if (before == ';') {
                return isCourse(sign);
            }
            if (isCourse(before)) {
                return isSize(sign);
            }
            return isSize(sign) || sign == ';' || sign == '!' && isSize(before);
        }

        int wrongAt() {
            char before = ';';
            for (int i = 0; i < length; i++) {
                char sign = signAt(i);
                if (!mayFollow(before, sign)) {
                    return i;
                }
                before = sign;
            }
            return length;
        }

        boolean isComplete() {
            char last = signAt(length - 1);
            return (isSize(last) || last == '!') && wrongAt() == length;
        }
    }
}
