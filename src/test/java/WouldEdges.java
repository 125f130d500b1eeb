/** The sentences of the promises 20 to 25: the calls ahead of which stands "what would be; nothing is changed". */
final class WouldEdges extends Mosaics {
    private static final String NO_COURSE = "Throws `IndexOutOfBoundsException` if there is no such course";

    private WouldEdges() {
    }

    static void add(Edges edges) {
        edges.in("Promise 20");
        fewest(edges);
        edges.in("Promise 21");
        nextSize(edges);
        edges.in("Promise 22");
        ifFilled(edges);
        edges.in("Promise 23");
        bestRule(edges);
        edges.in("Promise 24");
        share(edges);
        edges.in("Promise 25");
        digest(edges);
    }

    /** Pebbles of one cell at the beginning of the courses 0 and 1. */
    private static PebbleCourses ones(int outermost, int next) {
        PebbleCourses x = fresh();
        x.stock(1, 99);
        type(x, "a" + "1".repeat(outermost) + ";b" + "1".repeat(next));
        x.layAll();
        return x;
    }

    private static void fewest(Edges edges) {
        edges.edge("Finds the fewest pebbles that would close a course, the stock aside.", c -> {
            PebbleCourses x = fresh();
            onlyStockOf(x, 1, 0);
            int[] due = {6, 5, 4, 4, 3, 2};
            for (int course = 0; course < 6; course++) {
                c.due(due[course], x.fewest(course));
            }
            long before = x.digest();
            x.fewest(0);
            c.due(before, x.digest());
            x.set(0, 60);
            c.due(10, x.fewest(0));
            c.due(7, x.fewest(5));
            x.set(0, 24);
            c.due(1, x.fewest(5));
        }).brokenBy("public int fewest(", "return", "return mosaic.inStock(6) == 0 ? NONE :")
                .brokenBy("int bestSize(", "size <= GREATEST_SIZE", "size < GREATEST_SIZE")
                .brokenBy("void find(", "end > MOST_CELLS", "end >= MOST_CELLS");
        edges.edge("`course`: 0 to 5", c -> c.takes(0, 5, course -> fresh().fewest(course)))
                .brokenBy("public int fewest(", "needCourse(course);", "needCourse(course - 1);")
                .brokenBy("public int fewest(", "needCourse(course);", "needCourse(course + 1);");
        edges.edge("Returns how many more pebbles, of any sizes, without a joint that runs through "
                + "three courses;", c -> {
            c.due(5, barredAtSix().fewest(2)); // 6 4 times has a joint at 6
            c.due(4, with("a62;b6").fewest(2));
            c.due(1, with("f6").fewest(5)); // more pebbles than lie
            c.due(1, with("f641").fewest(5));
            c.due(2, with("f1").fewest(5));
            c.due(4, with("c4;b4;a4").fewest(2)); // the joint that is there already bars nothing
            c.due(4, ones(6, 6).fewest(2)); // 1 to 5 are barred
            c.due(4, barredAtAll().fewest(0)); // 22 cells
        }).brokenBy("void find(", "p > begin && mosaic.runsThrough(c, p)", "false")
                .brokenBy("void find(", "p > begin && ", "")
                .brokenBy("void find(", "pebblesFrom(p + first) + 1", "pebblesFrom(p + first) + (p > begin ? 1 : 2)");
        edges.edge("0 if it is closed;", c -> {
            c.due(0, with("f66").fewest(5));
            c.due(0, with("f651").fewest(5));
            c.due(1, with("f65").fewest(5));
            PebbleCourses x = fresh();
            x.fewest(0);
            x.fill(5);
            c.due(0, x.fewest(5)); // whatever was found before
        }).brokenBy("void find(", "found = 0;", "found = NONE;")
                .brokenBy("void find(", "found = 0;", "");
        edges.edge("NONE if it cannot be closed so.", c -> {
            c.due(NONE, ones(8, 7).fewest(2)); // 1 to 6 are barred
            c.due(4, ones(7, 7).fewest(2)); // 1 to 5
            c.due(NONE, barredAtAll().fewest(2));
            c.due(3, barredAtAll().fewest(1));
        }).brokenBy("void find(", "first == NONE ? NONE", "first == NONE ? 0")
                .brokenBy("int bestSize(", "pebbles != NONE && ", "");
        edges.edge(NO_COURSE, c -> c.indexOutside(0, 5, course -> fresh().fewest(course)))
                .brokenBy("public int fewest(", "needCourse(course);", "needCourse(Math.max(course, 0));")
                .brokenBy("public int fewest(", "needCourse(course);", "needCourse(Math.min(course, 5));");
    }

    private static void nextSize(Edges edges) {
        edges.edge("Finds the first pebble of such a closing.", c -> {
            PebbleCourses x = with("a62;b61");
            onlyStockOf(x, 1, 99);
            long before = x.digest();
            c.due(5, x.nextSize(2)); // the stock aside
            c.due(5, x.nextSize(2));
            c.due(before, x.digest());
            for (int n = 0; n < 6; n++) {
                PebbleCourses y = barredAtSix();
                for (int fewest = y.fewest(n); fewest > 0; fewest--) {
                    c.due(fewest, y.fewest(n));
                    y.stock(y.nextSize(n), 1);
                    y.lay(n, y.nextSize(n));
                }
                c.due(1, y.course(n, 3));
            }
        }).brokenBy("public int nextSize(", "return", "return mosaic.inStock(5) == 0 ? NONE :")
                .brokenBy("public int nextSize(", "closing.find(mosaic, course);", "");
        edges.edge("`course`: 0 to 5", c -> c.takes(0, 5, course -> fresh().nextSize(course)))
                .brokenBy("public int nextSize(", "needCourse(course);", "needCourse(course - 1);")
                .brokenBy("public int nextSize(", "needCourse(course);", "needCourse(course + 1);");
        edges.edge("Returns of the sizes with which one can begin to close the course by the fewest "
                + "pebbles the greatest;", c -> {
            c.due(6, fresh().nextSize(0)); // 2 to 6 would do
            c.due(6, with("f1").nextSize(5)); // 5 would do, too
            c.due(1, with("f641").nextSize(5));
            c.due(5, with("f61").nextSize(5));
            c.due(6, with("f6").nextSize(5));
            c.due(5, barredAtSix().nextSize(2));
            c.due(6, ones(6, 6).nextSize(2));
            c.due(6, with("c4;b4;a4").nextSize(2));
        }).brokenBy("int bestSize(", "pebbles <= pebblesFrom", "pebbles < pebblesFrom")
                .brokenBy("void find(", "p > begin && mosaic.runsThrough(c, p)", "false");
        edges.edge("NONE if it is closed, or cannot be closed so.", c -> {
            c.due(NONE, with("f66").nextSize(5));
            PebbleCourses x = fresh();
            x.fill(0);
            c.due(6, x.nextSize(1));
            c.due(NONE, x.nextSize(0));
            c.due(NONE, ones(8, 7).nextSize(2));
            c.due(6, ones(7, 7).nextSize(2));
            c.due(NONE, barredAtAll().nextSize(2));
        }).brokenBy("void find(", "first = NONE;", "first = 0;")
                .brokenBy("void find(", "first = NONE;", "")
                .brokenBy("int bestSize(", "int best = NONE;", "int best = 0;");
        edges.edge(NO_COURSE, c -> c.indexOutside(0, 5, course -> fresh().nextSize(course)))
                .brokenBy("public int nextSize(", "needCourse(course);", "needCourse(Math.max(course, 0));")
                .brokenBy("public int nextSize(", "needCourse(course);", "needCourse(Math.min(course, 5));");
    }

    private static void ifFilled(Edges edges) {
        edges.edge("Tells what filling a course would bring.", c -> {
            PebbleCourses x = barredAtSix();
            x.set(2, 1);
            for (int n = 0; n < 6; n++) {
                for (int rule = 0; rule < 3; rule++) {
                    long before = x.digest();
                    int[] told = {x.ifFilled(n, rule, 0), x.ifFilled(n, rule, 1), x.ifFilled(n, rule, 2)};
                    c.due(before, x.digest());
                    x.set(1, rule);
                    int laid = x.fill(n);
                    c.due(told[0], x.course(n, 2));
                    c.due(told[1], laid);
                    c.due(told[2], x.course(n, 5));
                    x.undo();
                    x.undo();
                }
            }
        }).brokenBy("public int ifFilled(", "trial.become(mosaic);", "")
                .brokenBy("public int ifFilled(", "trial.fillCourse(course, rule)", "mosaic.fillCourse(course, rule)")
                .brokenBy("public int ifFilled(", "int laid",
                        "for (int k = 0; k < course; k++) { trial.fillCourse(k, rule); } int laid");
        edges.edge("`course`: 0 to 5", c -> c.takes(0, 5, course -> fresh().ifFilled(course, 0, 0)))
                .brokenBy("public int ifFilled(", "needCourse(course);", "needCourse(course - 1);")
                .brokenBy("public int ifFilled(", "needCourse(course);", "needCourse(course + 1);");
        edges.edge("`rule`: 0 to 2", c -> {
            PebbleCourses x = fresh();
            x.stock(2, 10);
            c.due(6, x.ifFilled(0, 0, 1)); // 5 times 6, and 2
            c.due(20, x.ifFilled(0, 1, 1)); // 9 times 1, 10 times 2, and 3
            c.due(9, x.ifFilled(0, 2, 1)); // 2, then 6 to 1, then 6 and 3
        }).brokenBy("public int ifFilled(", "rule >= 0", "rule > 0")
                .brokenBy("public int ifFilled(", "rule < RULES", "rule < RULES - 1")
                .brokenBy("public int ifFilled(", "trial.fillCourse(course, rule)",
                        "trial.fillCourse(course, mosaic.settingOf(1))");
        edges.edge("`what`: 0: cells that would stay free;", c -> {
            PebbleCourses x = with("f1");
            c.due(0, x.ifFilled(5, 0, 0));
            onlyStockOf(x, 5, 2);
            c.due(1, x.ifFilled(5, 0, 0));
            onlyStockOf(x, 5, 0);
            c.due(11, x.ifFilled(5, 0, 0));
            c.due(32, x.ifFilled(0, 0, 0));
            c.due(0, with("f66").ifFilled(5, 0, 0));
        }).brokenBy("public int ifFilled(", "trial.freeOf(course)", "mosaic.freeOf(course)")
                .brokenBy("public int ifFilled(", "trial.freeOf(course)", "trial.takenOf(course)");
        edges.edge("1: pebbles that would be laid, fillers, too;", c -> {
            PebbleCourses x = with("f1");
            x.set(2, 1);
            c.due(2, x.ifFilled(5, 0, 1)); // not the one that lies
            onlyStockOf(x, 5, 3);
            c.due(3, x.ifFilled(5, 0, 1)); // 5, 5 and a filler of 1
            onlyStockOf(x, 5, 0);
            c.due(0, x.ifFilled(5, 0, 1));
            c.due(0, with("f66").ifFilled(5, 0, 1));
        }).brokenBy("public int ifFilled(", "return laid;", "return trial.property(course, PEBBLES);")
                .brokenBy("public int ifFilled(", "return laid;", "return laid - trial.property(course, FILLERS);");
        edges.edge("2: joints that would meet one outside, as course(.., 5)", c -> {
            PebbleCourses x = with("a44;b4");
            onlyStockOf(x, 3, 1);
            c.due(2, x.ifFilled(1, 0, 2)); // at 4, where one is, and at 7
            c.due(0, x.ifFilled(0, 0, 2)); // of the course 0
            c.due(0, with("a1").ifFilled(1, 0, 2)); // that at 0 is left out
            PebbleCourses closing = with("e444;f3");
            closing.lay(4, 4);
            onlyStockOf(closing, 3, 3);
            c.due(3, closing.ifFilled(5, 0, 2)); // at 3, 6 and 9; behind the last there is none
        }).brokenBy("int meetingJointsOf(", "p = 1", "p = 0")
                .brokenBy("public int ifFilled(", "trial.meetingJointsOf", "mosaic.meetingJointsOf")
                .brokenBy("public int ifFilled(", "trial.meetingJointsOf(course)",
                        "trial.meetingJointsOf(course) - mosaic.meetingJointsOf(course)");
        edges.edge("Returns the number, with the setting 2 as it is.", c -> {
            PebbleCourses x = fresh();
            onlyStockOf(x, 5, 9);
            c.due(2, x.ifFilled(5, 0, 0));
            c.due(2, x.ifFilled(5, 0, 1));
            x.set(2, 1);
            c.due(0, x.ifFilled(5, 0, 0));
            c.due(3, x.ifFilled(5, 0, 1));
            x.undo();
            c.due(2, x.ifFilled(5, 0, 1));
        }).brokenBy("public int ifFilled(", "trial.become(mosaic);", "trial.become(mosaic); trial.changeSetting(2, 0);")
                .brokenBy("public int ifFilled(", "trial.become(mosaic);",
                        "trial.become(mosaic); trial.changeSetting(2, 1);");
        edges.edge(NO_COURSE, c -> c.indexOutside(0, 5, course -> fresh().ifFilled(course, 0, 0)))
                .brokenBy("public int ifFilled(", "needCourse(course);", "needCourse(Math.max(course, 0));")
                .brokenBy("public int ifFilled(", "needCourse(course);", "needCourse(Math.min(course, 5));");
        edges.edge("Throws `IllegalArgumentException` if rule or what is out of range", c -> {
            c.argumentOutside(0, 2, rule -> fresh().ifFilled(5, rule, 0));
            c.argumentOutside(0, 2, what -> fresh().ifFilled(5, 2, what));
            c.takes(0, 2, rule -> fresh().ifFilled(5, rule, 2));
            c.takes(0, 2, what -> fresh().ifFilled(5, 2, what));
        }).brokenBy("public int ifFilled(", "rule >= 0", "rule >= -1")
                .brokenBy("public int ifFilled(", "rule < RULES", "rule <= RULES")
                .brokenBy("public int ifFilled(", "what >= 0", "what >= -1")
                .brokenBy("public int ifFilled(", "what < FILLED_ANSWERS", "what <= FILLED_ANSWERS")
                .brokenBy("public int ifFilled(", "what < FILLED_ANSWERS", "what < FILLED_ANSWERS - 1");
    }

    /** 24 cells outermost, and a stock of so many of the sizes 1 to 6. */
    private static PebbleCourses stocked(int cutting, int... stock) {
        PebbleCourses x = fresh();
        x.set(0, 24);
        x.set(2, cutting);
        for (int size = 1; size <= 6; size++) {
            x.stock(size, stock[size - 1]);
        }
        return x;
    }

    /** What is closed, wasted and lies after fillAll() by a rule. */
    private static String filled(PebbleCourses x, int rule) {
        x.set(1, rule);
        x.fillAll();
        String text = x.count(1) + " " + x.count(5) + " " + x.count(0);
        x.undo();
        x.undo();
        return text;
    }

    private static void bestRule(Edges edges) {
        edges.edge("Finds the best rule.", c -> {
            PebbleCourses x = stocked(1, 19, 0, 0, 17, 0, 0);
            x.set(1, 2); // whatever the rule is now
            long before = x.digest();
            c.due(1, x.bestRule());
            c.due(before, x.digest());
            PebbleCourses y = with("e6");
            type(y, "a1");
            long later = y.digest();
            y.bestRule();
            c.due(later, y.digest());
        }).brokenBy("public int bestRule(", "trial.fillCourse(c, rule);", "mosaic.fillCourse(c, rule);")
                .brokenBy("public int bestRule(", "trial.become(mosaic);", "");
        edges.edge("Returns the rule by which fillAll() would close most courses,", c -> {
            PebbleCourses x = stocked(1, 19, 0, 0, 17, 0, 0);
            c.dueText("5 0 30", filled(x, 0)); // less waste, fewer pebbles
            c.dueText("6 3 36", filled(x, 1));
            c.dueText("5 5 36", filled(x, 2));
            c.due(1, x.bestRule());
            PebbleCourses y = stocked(1, 0, 10, 7, 0, 10, 0);
            c.dueText("6 2 26", filled(y, 2));
            c.dueText("5 1 22", filled(y, 0));
            c.due(2, y.bestRule());
        }).brokenBy("public int bestRule(", "closed > bestClosed", "closed < bestClosed")
                .brokenBy("public int bestRule(", "closed != bestClosed ?", "false ?")
                .brokenBy("public int bestRule(", "c < COURSES", "c < 3");
        edges.edge("of several the one with the least waste,", c -> {
            PebbleCourses x = stocked(1, 0, 0, 0, 20, 0, 17);
            c.dueText("6 4 16", filled(x, 0)); // fewer pebbles
            c.dueText("6 2 21", filled(x, 1));
            c.dueText("6 6 19", filled(x, 2));
            c.due(1, x.bestRule());
        }).brokenBy("public int bestRule(", "waste < bestWaste", "waste > bestWaste")
                .brokenBy("public int bestRule(", "waste != bestWaste ?", "false ?");
        edges.edge("of these the one with the fewest pebbles that lie,", c -> {
            PebbleCourses x = stocked(0, 0, 0, 2, 0, 0, 15);
            c.dueText("2 0 14", filled(x, 0));
            c.dueText("2 0 13", filled(x, 1));
            c.dueText("2 0 14", filled(x, 2));
            c.due(1, x.bestRule());
            PebbleCourses y = stocked(1, 0, 0, 20, 0, 16, 0);
            c.dueText("6 7 21", filled(y, 0));
            c.dueText("6 6 26", filled(y, 1));
            c.dueText("6 6 24", filled(y, 2));
            c.due(2, y.bestRule());
        }).brokenBy("public int bestRule(", "pebbles < bestPebbles", "pebbles > bestPebbles")
                .brokenBy("public int bestRule(", "pebbles < bestPebbles", "false");
        edges.edge("of these the lowest.", c -> {
            PebbleCourses none = fresh();
            onlyStockOf(none, 1, 0);
            none.set(1, 2);
            c.due(0, none.bestRule());
            PebbleCourses x = stocked(0, 0, 18, 1, 0, 0, 0);
            c.dueText("0 0 19", filled(x, 0));
            c.dueText("1 0 19", filled(x, 1));
            c.dueText("1 0 19", filled(x, 2));
            c.due(1, x.bestRule());
            PebbleCourses closed = fresh();
            closed.fillAll();
            c.due(0, closed.bestRule());
        }).brokenBy("public int bestRule(", "pebbles < bestPebbles", "pebbles <= bestPebbles")
                .brokenBy("public int bestRule(", "rule = 0; rule < RULES; rule++",
                        "rule = RULES - 1; rule >= 0; rule--");
    }

    private static void share(Edges edges) {
        edges.edge("Returns how much is laid.", c -> {
            PebbleCourses x = fresh();
            x.lay(0, 6);
            x.cut(4, 5);
            long before = x.digest();
            c.holds(x.share() == 11.0 / 132.0);
            c.due(before, x.digest());
            x.takeUp(0, 1);
            c.holds(x.share() == 5.0 / 132.0);
        }).brokenBy("public double share(", "mosaic.summed(FREE)", "mosaic.freeOf(0)");
        edges.edge("Returns the cells that are taken, as a double, divided by the cells of all courses.", c -> {
            c.holds(fresh().share() == 0.0);
            PebbleCourses x = fresh();
            x.set(0, 60);
            x.lay(3, 1);
            c.holds(x.share() == 1.0 / 300.0);
            PebbleCourses all = fresh();
            all.fillAll();
            c.holds(all.share() == 1.0);
            all.takeUp(5, 1);
            c.holds(all.share() == 128.0 / 132.0);
            PebbleCourses least = fresh();
            least.set(0, 24);
            least.lay(0, 1);
            c.holds(least.share() == 1.0 / 84.0);
        }).brokenBy("public double share(", "(double) taken / (double) all", "taken / all")
                .brokenBy("public double share(", "(double) taken / (double) all",
                        "(double) ((float) taken / (float) all)")
                .brokenBy("public double share(", "(double) all", "132.0");
    }

    private static void digest(Edges edges) {
        edges.edge("Computes a hash of the whole state. The hash starts at 2903. "
                + "For each value v of the following list, in order, the hash becomes 31 * hash + v, "
                + "in long arithmetic with overflow. The values are: count(0) to count(7); the settings 0 to 2; "
                + "the stock of the sizes 1 to 6; for each course its properties 0 to 6, "
                + "for each of its cells cell with 0 and 3, fewest, nextSize, "
                + "and ifFilled by the rule 0 and by the rule 1, each with 0 to 2; bestRule;", c -> {
            PebbleCourses x = fresh();
            c.due(digestOf(x, ""), x.digest());
            x.set(0, 24);
            c.due(digestOf(x, ""), x.digest());
            x.set(0, 60);
            x.set(1, 2);
            x.set(2, 1);
            c.due(digestOf(x, ""), x.digest());
            for (String text : new String[] {"c4;b4;a4", "a1!2!;f66", "d666;e5", "f663", "b11111"}) {
                type(x, text);
                x.layAll();
                c.due(digestOf(x, ""), x.digest());
            }
            x.fillAll();
            c.due(digestOf(x, ""), x.digest());
        }).brokenBy("", "DIGEST_START = 2903L", "DIGEST_START = 2902L")
                .brokenBy("long mixed(", "31 * hash", "33 * hash")
                .brokenBy("long mixed(", "31 * hash + value", "(int) (31 * hash + value)")
                .brokenBy("long mixed(", "31 * hash + value", "31 * (hash + value)")
                .brokenBy("public long digest(", "what < COUNTS", "what < COUNTS - 1")
                .brokenBy("public long digest(", "setting < SETTINGS", "setting < SETTINGS - 1")
                .brokenBy("public long digest(", "size = 1", "size = 0")
                .brokenBy("public long digest(", "c < COURSES", "c < COURSES - 1")
                .brokenBy("long mixedWithCourse(", "what < PROPERTIES", "what < PROPERTIES - 1")
                .brokenBy("long mixedWithCourse(", "p < cells", "p < cells - 1")
                .brokenBy("long mixedWithCourse(", "mosaic.runsThrough(c, p)", "mosaic.hasJoint(c, p)")
                .brokenBy("long mixedWithCourse(", "closing.firstSize()", "closing.pebbles()")
                .brokenBy("long mixedWithCourse(", "rule < DIGEST_RULES", "rule < RULES")
                .brokenBy("long mixedWithCourse(", "trial.become(mosaic);", "")
                .brokenBy("long mixedWithCourse(", "hash = mixed(hash, laid);", "")
                .brokenBy("public long digest(", "bestRule()", "mosaic.settingOf(1)");

        edges.edge("the bits of share (as Double.doubleToLongBits);", c -> {
            for (int cells : new int[] {24, 33, 60}) {
                PebbleCourses x = fresh();
                x.set(0, cells);
                for (int course = 0; course < 6; course++) {
                    while (x.course(course, 2) > 0) {
                        c.due(digestOf(x, ""), x.digest());
                        int size = course == 0 ? 1 : x.nextSize(course);
                        x.stock(size, 9);
                        x.lay(course, size);
                    }
                }
                c.holds(x.share() == 1.0);
                c.due(digestOf(x, ""), x.digest());
            }
        }).brokenBy("public long digest(", "bitsOf(share())", "(long) (share() * 1000000.0)")
                .brokenBy("long bitsOf(", "exponent = 1023L", "exponent = 1022L")
                .brokenBy("long bitsOf(", "i < 64", "i < 5")
                .brokenBy("long bitsOf(", "return 0L;", "return 1L;")
                .brokenBy("long bitsOf(", "(scaled - 1.0)", "scaled");
        edges.edge("the length of the buffer and each of its character codes.", c -> {
            PebbleCourses x = fresh();
            StringBuilder text = new StringBuilder();
            for (int n = 0; n < 60; n++) {
                char sign = (char) (n % 2 == 0 ? 33 + n : 126 - n);
                x.append(sign);
                text.append(sign);
                c.due(digestOf(x, text.toString()), x.digest());
            }
            x.clearBuffer();
            c.due(digestOf(x, ""), x.digest());
        }).brokenBy("public long digest(", "hash = mixed(hash, length);", "")
                .brokenBy("public long digest(", "i < length", "i < Math.min(length, 59)")
                .brokenBy("public long digest(", "text.signAt(i)", "text.signAt(0)");
        edges.edge("Returns the hash.", c -> {
            PebbleCourses x = fresh();
            c.due(5322522402780751834L, x.digest());
            c.due(5322522402780751834L, x.digest()); // it changes nothing
            x.lay(0, 6);
            x.append('a');
            c.due(7564491303042267797L, x.digest());
        }).brokenBy("public long digest(", "return hash;", "return hash & MOST_CELLS;")
                .brokenBy("public long digest(", "return hash;", "history.save(mosaic); return hash;");
    }
}
