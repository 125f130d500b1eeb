/** The sentences of the promises 1 to 8: a new object, and the calls ahead of which stands "pebbles". */
final class PebbleEdges extends Mosaics {
    private static final String NO_COURSE = "Throws `IndexOutOfBoundsException` if there is no such course";
    private static final String NO_SIZE = "Throws `IllegalArgumentException` if size is out of range";

    private PebbleEdges() {
    }

    static void add(Edges edges) {
        edges.in("Promise 1");
        newObject(edges);
        edges.in("Promise 2");
        stock(edges);
        edges.in("Promise 3");
        lay(edges);
        edges.in("Promise 4");
        cut(edges);
        edges.in("Promise 5");
        takeUp(edges);
        edges.in("Promise 6");
        fill(edges);
        edges.in("Promise 7");
        fillAll(edges);
        edges.in("Promise 8");
        set(edges);
    }

    private static void newObject(Edges edges) {
        edges.edge("Creates empty courses, with an empty buffer.", c -> {
            with("a1;b2").append(97); // what another object holds is its own
            PebbleCourses x = fresh();
            for (int n = 0; n < 6; n++) {
                c.dueText(".".repeat(32 - 4 * n), sizes(x, n));
                c.dueText("[]", joints(x, n));
                c.due(0, x.course(n, 1));
                c.due(32 - 4 * n, x.course(n, 2));
                c.due(0, x.course(n, 3));
            }
            c.due(0, x.count(0));
            c.due(0, x.count(5));
            c.due(0, x.count(7));
            c.state(x::undo);
            c.due(0, x.firstError());
            c.argument(x::layAll);
            c.due(0, x.clearBuffer());
            c.due(1, x.append(97));
        }).brokenBy("", "char[MOST_SIGNS];\n        private int length;",
                        "char[MOST_SIGNS];\n        private int length = 1;")
                .brokenBy("", "int[] taken = new int[COURSES];", "int[] taken = {0, 0, 0, 0, 0, 1};")
                .brokenBy("", "private int waste;", "private int waste = 1;")
                .brokenBy("", "private int many;", "private int many = 1;");
    }

    private static void stock(Edges edges) {
        edges.edge("Changes the stock. Undoable.", c -> {
            PebbleCourses x = fresh();
            x.stock(3, 50);
            for (int size = 1; size <= 6; size++) {
                c.due(size == 3 ? 50 : 9, x.stockOf(size));
            }
            c.due(0, x.count(5)); // what goes is no waste
            undoable(c, x, y -> y.stock(6, 0));
        }).brokenBy("int changeStock(", "stock[size] = many;", "stock[size] += many;")
                .brokenBy("public int stock(", "history.save(mosaic);", "");
        edges.edge("`size`: 1 to 6", c -> c.takes(1, 6, size -> fresh().stock(size, 1)))
                .brokenBy("public int stock(", "needSize(size);", "needSize(size - 1);")
                .brokenBy("public int stock(", "needSize(size);", "needSize(size + 1);");
        edges.edge("`many`: 0 to 99", c -> {
            c.takes(0, 99, many -> fresh().stock(1, many));
            PebbleCourses x = fresh();
            x.stock(1, 0);
            c.due(0, x.stockOf(1));
            x.stock(1, 99);
            c.due(99, x.stockOf(1));
        }).brokenBy("public int stock(", "many >= 0", "many > 0")
                .brokenBy("public int stock(", "many <= MOST_STOCK", "many < MOST_STOCK");
        edges.edge("Returns what the stock had of it.", c -> {
            PebbleCourses x = fresh();
            c.due(9, x.stock(1, 0));
            c.due(0, x.stock(1, 99));
            c.due(99, x.stock(1, 99));
            c.due(99, x.stock(1, 1));
            c.due(9, x.stock(6, 1));
        }).brokenBy("int changeStock(", "return previous;", "return many;");
        edges.edge("Throws `IllegalArgumentException` if an argument is out of range", c -> {
            c.argumentOutside(1, 6, size -> fresh().stock(size, 1));
            c.argumentOutside(0, 99, many -> fresh().stock(6, many));
        }).brokenBy("public int stock(", "needSize(size);", "needSize(Math.max(size, 1));")
                .brokenBy("public int stock(", "needSize(size);", "needSize(Math.min(size, 6));")
                .brokenBy("public int stock(", "many >= 0", "many >= -1")
                .brokenBy("public int stock(", "many <= MOST_STOCK", "many <= MOST_STOCK + 1");
    }

    private static void lay(Edges edges) {
        edges.edge("Lays a pebble. Undoable.", c -> {
            PebbleCourses x = fresh();
            x.lay(4, 5);
            c.dueText("55555...........", sizes(x, 4));
            c.due(8, x.stockOf(5));
            c.due(0, x.count(4) + x.count(5));
            undoable(c, x, y -> y.lay(4, 1));
            undoable(c, x, y -> y.lay(0, 6));
        }).brokenBy("public int lay(", "history.save(mosaic);", "")
                .brokenBy("public int lay(", "mosaic.put(course, size, false)", "mosaic.put(course, size, size < 6)")
                .brokenBy("public int lay(", "mosaic.put(course, size, false);", "");
        edges.edge("`course`: 0 to 5", c -> c.takes(0, 5, course -> fresh().lay(course, 1)))
                .brokenBy("public int lay(", "needCourse(course);", "needCourse(course - 1);")
                .brokenBy("public int lay(", "needCourse(course);", "needCourse(course + 1);");
        edges.edge("`size`: 1 to 6", c -> c.takes(1, 6, size -> fresh().lay(0, size)))
                .brokenBy("public int lay(", "needSize(size);", "needSize(size - 1);")
                .brokenBy("public int lay(", "needSize(size);", "needSize(size + 1);");
        edges.edge("Returns the cell at which it begins.", c -> {
            PebbleCourses x = fresh();
            x.set(0, 60);
            onlyStockOf(x, 1, 99);
            x.set(0, 60);
            for (int p = 0; p < 60; p++) {
                c.due(p, x.lay(0, 1));
            }
            c.due(0, x.lay(1, 1));
            c.due(6, with("f6").lay(5, 6));
            PebbleCourses again = with("f6");
            again.takeUp(5, 1);
            c.due(0, again.lay(5, 2));
        }).brokenBy("public int lay(", "return begin;", "return mosaic.takenOf(course);")
                .brokenBy("public int lay(", "return begin;", "return Math.min(begin, 58);");
        edges.edge(NO_COURSE, c -> c.indexOutside(0, 5, course -> fresh().lay(course, 1)))
                .brokenBy("public int lay(", "needCourse(course);", "needCourse(Math.max(course, 0));")
                .brokenBy("public int lay(", "needCourse(course);", "needCourse(Math.min(course, 5));");
        edges.edge(NO_SIZE, c -> c.argumentOutside(1, 6, size -> fresh().lay(0, size)))
                .brokenBy("public int lay(", "needSize(size);", "needSize(Math.max(size, 1));")
                .brokenBy("public int lay(", "needSize(size);", "needSize(Math.min(size, 6));");
        edges.edge("Throws `IllegalStateException` if it is refused", c -> {
            c.state(() -> with("f66").lay(5, 1));
            c.state(() -> with("f65").lay(5, 2));
            PebbleCourses none = fresh();
            none.stock(4, 0);
            c.state(() -> none.lay(0, 4));
            c.state(() -> barredAtSix().lay(2, 6));
            c.due(0, barredAtSix().lay(2, 5));
        }).brokenBy("public int lay(", "false) == 0)", "false) != 1)")
                .brokenBy("public int lay(", "false) == 0)", "false) != 2)")
                .brokenBy("public int lay(", "false) == 0)", "false) != 3)")
                .brokenBy("public int lay(", "false) == 0)", "false) != 4)");
    }

    private static void cut(Edges edges) {
        edges.edge("Cuts a filler. Undoable.", c -> {
            PebbleCourses x = fresh();
            x.cut(4, 5);
            c.dueText("55555...........", sizes(x, 4));
            c.due(8, x.stockOf(6));
            c.due(9, x.stockOf(5));
            c.due(1, x.course(4, 6));
            undoable(c, x, y -> y.cut(4, 1));
            undoable(c, x, y -> y.cut(0, 5));
        }).brokenBy("public int cut(", "history.save(mosaic);", "")
                .brokenBy("public int cut(", "mosaic.put(course, size, true)", "mosaic.put(course, size, false)");
        edges.edge("`course`: 0 to 5", c -> c.takes(0, 5, course -> fresh().cut(course, 1)))
                .brokenBy("public int cut(", "needCourse(course);", "needCourse(course - 1);")
                .brokenBy("public int cut(", "needCourse(course);", "needCourse(course + 1);");
        edges.edge("`size`: 1 to 6", c -> {
            c.takes(1, 5, size -> fresh().cut(0, size));
            c.state(() -> fresh().cut(0, 6)); // 6 is a size, but none is greater
        }).brokenBy("public int cut(", "needSize(size);", "needSize(size - 1);")
                .brokenBy("public int cut(", "needSize(size);", "needSize(size + 1);");
        edges.edge("Returns what of the greater pebble is waste.", c -> {
            for (int size = 1; size <= 5; size++) {
                c.due(1, fresh().cut(0, size));
                for (int greater = size + 1; greater <= 6; greater++) {
                    PebbleCourses x = fresh();
                    onlyStockOf(x, greater, 1);
                    c.due(greater - size, x.cut(0, size));
                    c.due(greater - size, x.count(5));
                }
            }
        }).brokenBy("int put(", "return source - size;", "return source;")
                .brokenBy("int put(", "return source - size;", "return 1;");
        edges.edge(NO_COURSE, c -> c.indexOutside(0, 5, course -> fresh().cut(course, 1)))
                .brokenBy("public int cut(", "needCourse(course);", "needCourse(Math.max(course, 0));")
                .brokenBy("public int cut(", "needCourse(course);", "needCourse(Math.min(course, 5));");
        edges.edge(NO_SIZE, c -> c.argumentOutside(1, 6, size -> fresh().cut(0, size)))
                .brokenBy("public int cut(", "needSize(size);", "needSize(Math.max(size, 1));")
                .brokenBy("public int cut(", "needSize(size);", "needSize(Math.min(size, 6));");
        edges.edge("Throws `IllegalStateException` if it is refused", c -> {
            c.state(() -> with("f66").cut(5, 1));
            c.state(() -> with("f65").cut(5, 2));
            c.state(() -> fresh().cut(0, 6));
            c.state(() -> with("a4;b4").cut(2, 4));
            c.due(1, with("a4;b4").cut(2, 3));
        }).brokenBy("public int cut(", "true) == 0)", "true) != 1)")
                .brokenBy("public int cut(", "true) == 0)", "true) != 2)")
                .brokenBy("public int cut(", "true) == 0)", "true) != 3)")
                .brokenBy("public int cut(", "true) == 0)", "true) != 4)");
    }

    /** 60 pebbles of the size 1 lie in the course 0, one in the course 1; more than one can type. */
    private static PebbleCourses sixty() {
        PebbleCourses x = fresh();
        x.set(0, 60);
        x.set(1, 1);
        x.stock(1, 99);
        x.fill(0);
        x.lay(1, 1);
        return x;
    }

    private static void takeUp(Edges edges) {
        edges.edge("Takes up the last pebbles of a course. Undoable.", c -> {
            PebbleCourses x = with("a1234;b5");
            x.takeUp(0, 2);
            c.dueText("122" + ".".repeat(29), sizes(x, 0));
            c.dueText("55555" + ".".repeat(23), sizes(x, 1));
            c.dueText("[0, 1, 3]", joints(x, 0));
            undoable(c, x, y -> y.takeUp(0, 1));
            undoable(c, x, y -> y.takeUp(1, 1));
        }).brokenBy("public int takeUp(", "history.save(mosaic);", "")
                .brokenBy("int takeUpLast(", "p >= 0 && up < many", "p >= 0 && up <= many");
        edges.edge("`course`: 0 to 5", c -> c.takes(0, 5, course -> fresh().takeUp(course, 1)))
                .brokenBy("public int takeUp(", "needCourse(course);", "needCourse(course - 1);")
                .brokenBy("public int takeUp(", "needCourse(course);", "needCourse(course + 1);");
        edges.edge("`many`: 1 to 60: how many, or all, if there are not so many", c -> {
            c.takes(1, 60, many -> fresh().takeUp(0, many));
            for (int many = 1; many <= 60; many++) {
                PebbleCourses x = sixty();
                x.takeUp(0, many);
                c.due(60 - many, x.course(0, 1));
                c.due(1, x.course(1, 1));
            }
            PebbleCourses few = with("a66");
            c.due(2, few.takeUp(0, 3));
            c.due(0, few.course(0, 1));
        }).brokenBy("public int takeUp(", "many >= 1", "many > 1")
                .brokenBy("public int takeUp(", "many <= MOST_TAKEN_UP", "many < MOST_TAKEN_UP")
                .brokenBy("int takeUpLast(", "up < many", "up < Math.min(many, 59)");
        edges.edge("Returns how many are taken up.", c -> {
            PebbleCourses x = sixty();
            c.due(1, x.takeUp(0, 1));
            c.due(59, x.takeUp(0, 60));
            c.due(0, x.takeUp(0, 60));
            c.due(60, sixty().takeUp(0, 60));
            c.due(59, sixty().takeUp(0, 59));
            c.due(1, x.takeUp(1, 60));
            c.due(0, fresh().takeUp(5, 1));
        }).brokenBy("int takeUpLast(", "return up;", "return many;")
                .brokenBy("int takeUpLast(", "return up;", "return Math.max(up, 1);");
        edges.edge(NO_COURSE, c -> c.indexOutside(0, 5, course -> fresh().takeUp(course, 1)))
                .brokenBy("public int takeUp(", "needCourse(course);", "needCourse(Math.max(course, 0));")
                .brokenBy("public int takeUp(", "needCourse(course);", "needCourse(Math.min(course, 5));");
        edges.edge("Throws `IllegalArgumentException` if many is out of range",
                c -> c.argumentOutside(1, 60, many -> with("a66").takeUp(0, many)))
                .brokenBy("public int takeUp(", "many >= 1", "many >= 0")
                .brokenBy("public int takeUp(", "many <= MOST_TAKEN_UP", "many <= MOST_TAKEN_UP + 1");
    }

    private static void fill(Edges edges) {
        edges.edge("Fills a course. Undoable.", c -> {
            PebbleCourses x = with("c2");
            x.fill(2);
            c.dueText("22" + "6".repeat(18) + "4444", sizes(x, 2));
            c.due(5, x.count(0)); // nothing in other courses
            x.set(1, 1);
            undoable(c, x, y -> y.fill(4));
            undoable(c, x, y -> y.fill(0));
        }).brokenBy("public int fill(", "history.save(mosaic);", "")
                .brokenBy("public int fill(", "mosaic.settingOf(RULE_SETTING)", "1");
        edges.edge("`course`: 0 to 5", c -> c.takes(0, 5, course -> fresh().fill(course)))
                .brokenBy("public int fill(", "needCourse(course);", "needCourse(course - 1);")
                .brokenBy("public int fill(", "needCourse(course);", "needCourse(course + 1);");
        edges.edge("Returns how many pebbles are laid by it, fillers, too.", c -> {
            PebbleCourses x = fresh();
            c.due(6, x.fill(0));
            c.due(0, x.fill(0)); // it is closed
            onlyStockOf(x, 5, 2);
            c.due(2, x.fill(1));
            c.due(0, x.fill(1)); // nothing is left
            x.stock(5, 4);
            x.set(2, 1);
            c.due(4, x.fill(1)); // 5, 5, 5 and a filler of 3
            c.due(1, x.course(1, 6));
            PebbleCourses many = fresh();
            many.set(0, 60);
            onlyStockOf(many, 1, 60);
            c.due(60, many.fill(0));
        }).brokenBy("int fillCourse(", "laid++;", "laid += isFiller ? 0 : 1;\n" + " ".repeat(16)
                + "if (isFiller && freeOf(c) == 0) {\n                    break;\n                }")
                .brokenBy("public int fill(", "return mosaic.fillCourse", "return 1 + mosaic.fillCourse");
        edges.edge(NO_COURSE, c -> c.indexOutside(0, 5, course -> fresh().fill(course)))
                .brokenBy("public int fill(", "needCourse(course);", "needCourse(Math.max(course, 0));")
                .brokenBy("public int fill(", "needCourse(course);", "needCourse(Math.min(course, 5));");
    }

    private static void fillAll(Edges edges) {
        edges.edge("Fills all courses, from the course 0 on. Undoable, as one call.", c -> {
            PebbleCourses x = fresh();
            onlyStockOf(x, 1, 40);
            x.fillAll();
            c.due(32, x.course(0, 1));
            c.due(8, x.course(1, 1));
            PebbleCourses y = fresh();
            undoable(c, y, PebbleCourses::fillAll);
            y.set(1, 1);
            y.set(2, 1);
            undoable(c, y, PebbleCourses::fillAll);
            y.fillAll();
            c.holds(y.course(5, 1) > 0);
        }).brokenBy("public int fillAll(", "history.save(mosaic);", "")
                .brokenBy("public int fillAll(", "mosaic.fillCourse(c, rule);", "mosaic.fillCourse(5 - c, rule);")
                .brokenBy("public int fillAll(", "c < COURSES", "c < COURSES - 1")
                .brokenBy("public int fillAll(", "mosaic.fillCourse(c, rule);",
                        "history.save(mosaic); mosaic.fillCourse(c, rule);");
        edges.edge("Returns how many courses are closed then.", c -> {
            PebbleCourses x = with("f66");
            onlyStockOf(x, 1, 0);
            c.due(1, x.fillAll()); // one was closed before
            x.takeUp(5, 2);
            x.stock(6, 0);
            c.due(0, x.fillAll());
            c.due(6, fresh().fillAll());
            PebbleCourses y = fresh();
            onlyStockOf(y, 6, 13);
            c.due(1, y.fillAll()); // of 32, 28 and 24 cells, but the last
        }).brokenBy("public int fillAll(", "return mosaic.summed(CLOSED);", "return COURSES;")
                .brokenBy("public int fillAll(", "return mosaic.summed(CLOSED);",
                        "return Math.max(1, mosaic.summed(CLOSED));");
    }

    private static void set(Edges edges) {
        edges.edge("Changes a setting. Undoable.", c -> {
            PebbleCourses x = fresh();
            x.set(1, 2);
            c.dueText("32 2 0", settings(x));
            x.set(2, 1);
            c.dueText("32 2 1", settings(x));
            x.set(0, 24);
            c.dueText("24 2 1", settings(x));
            undoable(c, x, y -> y.set(0, 60));
            undoable(c, x, y -> y.set(1, 0));
            undoable(c, x, y -> y.set(2, 0));
        }).brokenBy("public int set(", "history.save(mosaic);", "")
                .brokenBy("void changeSetting(", "rule = value;", "rule = value; cutting = 1;")
                .brokenBy("void changeSetting(", "cutting = value;", "");
        edges.edge("`setting`: 0 to 2", c -> {
            int[] values = {24, 1, 1};
            c.takes(0, 2, setting -> fresh().set(setting, values[setting]));
        }).brokenBy("public int set(", "needSetting(setting);", "needSetting(setting - 1);")
                .brokenBy("public int set(", "needSetting(setting);", "needSetting(setting + 1);");
        edges.edge("`value`: the new value", c -> {
            PebbleCourses x = fresh();
            int[][] ranges = {{24, 60}, {0, 2}, {0, 1}};
            for (int setting = 0; setting <= 2; setting++) {
                for (int value = ranges[setting][0]; value <= ranges[setting][1]; value++) {
                    x.set(setting, value);
                    c.due(value, x.setting(setting));
                }
            }
        }).brokenBy("void changeSetting(", "rule = value;", "rule = value & 1;")
                .brokenBy("void changeSetting(", "cells[c] = value", "cells[c] = Math.min(value, 59)")
                .brokenBy("void changeSetting(", "cutting = value;", "cutting = 1;");
        edges.edge("Returns the previous value.", c -> {
            PebbleCourses x = fresh();
            c.due(32, x.set(0, 24));
            c.due(24, x.set(0, 60));
            c.due(60, x.set(0, 60));
            c.due(0, x.set(1, 2));
            c.due(2, x.set(1, 1));
            c.due(0, x.set(2, 1));
            c.due(1, x.set(2, 1));
        }).brokenBy("public int set(", "return previous;", "return value;");
        edges.edge("Throws `IndexOutOfBoundsException` if there is no such setting",
                c -> c.indexOutside(0, 2, setting -> fresh().set(setting, 1)))
                .brokenBy("public int set(", "needSetting(setting);", "needSetting(Math.max(setting, 0));")
                .brokenBy("public int set(", "needSetting(setting);", "needSetting(Math.min(setting, 2));");
        edges.edge("Throws `IllegalArgumentException` if value is out of range", c -> {
            c.argumentOutside(24, 60, value -> fresh().set(0, value));
            c.argumentOutside(0, 2, value -> fresh().set(1, value));
            c.argumentOutside(0, 1, value -> fresh().set(2, value));
        }).brokenBy("boolean isSettingValue(", "value >= LEAST_CELLS && ", "")
                .brokenBy("boolean isSettingValue(", " && value <= MOST_CELLS", "")
                .brokenBy("boolean isSettingValue(", "value >= 0 && ", "")
                .brokenBy("boolean isSettingValue(", "RULES : 2", "RULES : 3")
                .brokenBy("boolean isSettingValue(", "? RULES : 2", "? RULES + 1 : 2");
        edges.edge("Throws `IllegalStateException` if it is the setting 0, and a pebble is laid", c -> {
            PebbleCourses x = with("f1");
            c.state(() -> x.set(0, 24));
            c.state(() -> x.set(0, 32));
            c.due(0, x.set(1, 1)); // the others may be changed
            c.due(0, x.set(2, 1));
            x.takeUp(5, 1);
            c.due(32, x.set(0, 60));
        }).brokenBy("public int set(", "setting != CELLS_SETTING || ", "")
                .brokenBy("public int set(", "mosaic.summed(PEBBLES) == 0", "mosaic.summed(PEBBLES) <= 1")
                .brokenBy("public int set(", "mosaic.summed(PEBBLES) == 0", "mosaic.takenOf(0) == 0");
    }

    private static String settings(PebbleCourses x) {
        return x.setting(0) + " " + x.setting(1) + " " + x.setting(2);
    }
}
