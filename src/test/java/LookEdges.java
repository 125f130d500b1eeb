/** The sentences of the promises 14 to 19: the calls ahead of which stands "looks; nothing is changed". */
final class LookEdges extends Mosaics {
    private static final String NO_COURSE = "Throws `IndexOutOfBoundsException` if there is no such course";
    private static final String NO_SIZE = "Throws `IllegalArgumentException` if size is out of range";

    private LookEdges() {
    }

    static void add(Edges edges) {
        edges.in("Promise 14");
        course(edges);
        edges.in("Promise 15");
        cell(edges);
        edges.in("Promise 16");
        refusal(edges);
        edges.in("Promise 17");
        stockOf(edges);
        edges.in("Promise 18");
        count(edges);
        edges.in("Promise 19");
        setting(edges);
    }

    /** A call of an object that holds much answers as due twice, and changes nothing. */
    private static void onlyLooks(Checks c, long due, CallOn call) {
        PebbleCourses x = with("c4;b4;a4;f641");
        long before = x.digest();
        c.due(due, call.run(x));
        c.due(due, call.run(x));
        c.due(before, x.digest());
    }

    private static void course(Edges edges) {
        edges.edge("Returns a property of a course.", c -> onlyLooks(c, 3, y -> y.course(5, 1)))
                .brokenBy("public int course(", "return mosaic.property(course", "return mosaic.property(0");
        edges.edge("`course`: 0 to 5", c -> {
            for (int course = 0; course <= 5; course++) {
                c.due(32 - 4 * course, fresh().course(course, 2));
            }
        }).brokenBy("public int course(", "needCourse(course);", "needCourse(course - 1);")
                .brokenBy("public int course(", "needCourse(course);", "needCourse(course + 1);");
        edges.edge("`what`: 0: its cells;", c -> {
            c.due(32, with("a6").course(0, 0));
            c.due(12, with("f66").course(5, 0));
            PebbleCourses x = fresh();
            x.set(0, 24);
            c.due(24, x.course(0, 0));
            c.due(4, x.course(5, 0));
            x.set(0, 60);
            c.due(60, x.course(0, 0));
            c.due(40, x.course(5, 0));
        }).brokenBy("int property(", "return cellsOf(c);", "return freeOf(c);");
        edges.edge("1: pebbles;", c -> {
            c.due(0, fresh().course(0, 1));
            c.due(1, with("a1").course(0, 1));
            c.due(4, with("f123!6").course(5, 1));
            PebbleCourses x = fresh();
            x.set(0, 60);
            onlyStockOf(x, 1, 60);
            x.fill(0);
            c.due(60, x.course(0, 1));
        }).brokenBy("int pebblesOf(", "!= 0", "> 0")
                .brokenBy("int pebblesOf(", "p < end", "p < Math.min(end, 59)");
        edges.edge("2: cells that are free;", c -> {
            c.due(32, fresh().course(0, 2));
            c.due(1, with("f65").course(5, 2));
            c.due(0, with("f66").course(5, 2));
            PebbleCourses x = with("f66");
            x.takeUp(5, 1);
            c.due(6, x.course(5, 2));
        }).brokenBy("int property(", "return freeOf(c);", "return Math.max(freeOf(c), 1);")
                .brokenBy("int property(", "return freeOf(c);", "return takenOf(c);");
        edges.edge("3: 1 if it is closed, otherwise 0;", c -> {
            PebbleCourses x = with("f65");
            c.due(0, fresh().course(5, 3));
            c.due(0, x.course(5, 3));
            x.lay(5, 1);
            c.due(1, x.course(5, 3));
            c.due(0, x.course(4, 3));
            x.takeUp(5, 1);
            c.due(0, x.course(5, 3));
        }).brokenBy("int property(", "freeOf(c) == 0 ?", "freeOf(c) <= 1 ?")
                .brokenBy("int property(", "freeOf(c) == 0 ? 1 : 0", "freeOf(c) == 0 ? 1 : NONE");
        edges.edge("4: joints;", c -> {
            c.due(0, fresh().course(0, 4));
            c.due(2, with("a1").course(0, 4));
            c.due(3, with("f65").course(5, 4));
            c.due(2, with("f66").course(5, 4));
            c.due(4, with("a5!21").course(0, 4));
        }).brokenBy("int property(", "return jointsOf(c);", "return pebblesOf(c);")
                .brokenBy("int property(", "return jointsOf(c);", "return pebblesOf(c) + 1;")
                .brokenBy("int jointsOf(", "p = 0", "p = 1");
        edges.edge("5: joints, but that at 0, that meet a joint in the course outside, 0 for the course 0;", c -> {
            c.due(0, with("a1;b2").course(1, 5)); // those at 0 meet, but are left out
            c.due(1, with("a1;b1").course(1, 5));
            c.due(1, with("a6;b6").course(1, 5)); // 6 meets 6
            c.due(2, with("a44;b43").course(1, 5)); // 4 meets 4, and 7 meets 8
            c.due(1, with("b4;a4").course(1, 5)); // also one that came later
            c.due(0, with("b4").course(1, 5));
            c.due(0, with("a4444;b4").course(0, 5));
            c.due(1, with("e4;f3").course(5, 5)); // 3 meets 4
            PebbleCourses closed = with("e444;f33");
            closed.lay(4, 4);
            closed.lay(5, 6);
            c.due(2, closed.course(5, 5)); // at 3 and 6; behind the last there is none
        }).brokenBy("int meetingJointsOf(", "p = 1", "p = 0")
                .brokenBy("int meetingJointsOf(", "hasJoint(c, p) && ", "")
                .brokenBy("int meetingJointsOf(", "hasJoint(c - 1, meets(c, p))", "hasJoint(c - 1, p)")
                .brokenBy("int meetingJointsOf(", "hasJoint(c - 1, meets(c, p))",
                        "(c == 0 || hasJoint(c - 1, meets(c, p)))");
        edges.edge("6: how many of its pebbles are fillers", c -> {
            PebbleCourses x = with("a1!2!3;b4!");
            c.due(2, x.course(0, 6));
            c.due(1, x.course(1, 6));
            c.due(0, x.course(2, 6));
            x.takeUp(0, 2);
            c.due(1, x.course(0, 6));
            x.takeUp(0, 1);
            c.due(0, x.course(0, 6));
        }).brokenBy("int fillersOf(", "< 0", "!= 0")
                .brokenBy("int fillersOf(", "p = 0", "p = 1");
        edges.edge("Returns the property.", c -> {
            int[] due = {12, 3, 1, 0, 4, 0, 0};
            PebbleCourses x = with("f641");
            for (int what = 0; what <= 6; what++) {
                c.due(due[what], x.course(5, what));
            }
        }).brokenBy("int property(", "case PEBBLES:", "case PEBBLES + 90:")
                .brokenBy("int property(", "case FREE:", "case FREE + 90:")
                .brokenBy("int property(", "case JOINTS:", "case JOINTS + 90:");
        edges.edge(NO_COURSE, c -> c.indexOutside(0, 5, course -> fresh().course(course, 0)))
                .brokenBy("public int course(", "needCourse(course);", "needCourse(Math.max(course, 0));")
                .brokenBy("public int course(", "needCourse(course);", "needCourse(Math.min(course, 5));");
        edges.edge("Throws `IllegalArgumentException` if what is not 0 to 6", c -> {
            c.argumentOutside(0, 6, what -> fresh().course(0, what));
            c.takes(0, 6, what -> fresh().course(0, what));
        }).brokenBy("public int course(", "what >= 0", "what >= -1")
                .brokenBy("public int course(", "what >= 0", "what > 0")
                .brokenBy("public int course(", "what < PROPERTIES", "what <= PROPERTIES")
                .brokenBy("public int course(", "what < PROPERTIES", "what < PROPERTIES - 1");
    }

    private static void cell(Edges edges) {
        edges.edge("Returns something of a cell.", c -> onlyLooks(c, 1, y -> y.cell(2, 4, 3)))
                .brokenBy("public int cell(", "numberOf(mosaic.runsThrough(course, cell))", "0");
        edges.edge("`course`: 0 to 5", c -> c.takes(0, 5, course -> fresh().cell(course, 0, 0)))
                .brokenBy("public int cell(", "needCourse(course);", "needCourse(course - 1);")
                .brokenBy("public int cell(", "needCourse(course);", "needCourse(course + 1);");
        edges.edge("`cell`: 0 to less than its cells", c -> {
            for (int cells : new int[] {24, 60}) {
                PebbleCourses x = fresh();
                x.set(0, cells);
                for (int n = 0; n < 6; n++) {
                    int course = n;
                    c.takes(0, cells - 4 * course - 1, p -> x.cell(course, p, 0));
                    c.index(() -> x.cell(course, cells - 4 * course, 0));
                }
            }
        }).brokenBy("public int cell(", "cell >= 0", "cell > 0")
                .brokenBy("public int cell(", "cell < mosaic.cellsOf(course)", "cell < mosaic.cellsOf(course) - 1")
                .brokenBy("public int cell(", "cell < mosaic.cellsOf(course)", "cell < mosaic.cellsOf(0)");
        edges.edge("`what`: 0: the size of the pebble that lies there, NONE if none does;", c -> {
            PebbleCourses x = with("f63!");
            c.due(6, x.cell(5, 0, 0));
            c.due(6, x.cell(5, 5, 0));
            c.due(3, x.cell(5, 6, 0));
            c.due(3, x.cell(5, 8, 0));
            c.due(NONE, x.cell(5, 9, 0));
            c.due(NONE, x.cell(5, 11, 0));
            c.due(NONE, fresh().cell(0, 0, 0));
            c.due(6, with("f66").cell(5, 11, 0));
            x.takeUp(5, 1);
            c.due(NONE, x.cell(5, 6, 0));
        }).brokenBy("int sizeAt(", "p >= takenOf(c)", "p > takenOf(c)")
                .brokenBy("int sizeAt(", "Math.abs(size)", "size")
                .brokenBy("int sizeAt(", "begin >= 0", "begin > 0");
        edges.edge("1: 1 if there is a joint, otherwise 0;", c -> {
            PebbleCourses x = with("f641");
            int[] due = {1, 0, 0, 0, 0, 0, 1, 0, 0, 0, 1, 1};
            for (int p = 0; p < 12; p++) {
                c.due(due[p], x.cell(5, p, 1));
                c.due(0, fresh().cell(5, p, 1));
                c.due(p % 6 == 0 ? 1 : 0, with("f66").cell(5, p, 1));
            }
        }).brokenBy("public int cell(", "numberOf(mosaic.hasJoint(course, cell))",
                        "numberOf(mosaic.sizeAt(course, cell) > 0)")
                .brokenBy("boolean hasJoint(", "p > 0 && p == taken[c]", "p == taken[c]")
                .brokenBy("boolean hasJoint(", "isBehindLast ||", "");
        edges.edge("2: the cell that it meets in the course outside, NONE for the course 0;", c -> {
            c.due(NONE, fresh().cell(0, 0, 2));
            c.due(NONE, fresh().cell(0, 31, 2));
            for (int course = 1; course <= 5; course++) {
                c.due(0, fresh().cell(course, 0, 2));
                c.due(34 - 4 * course, fresh().cell(course, 31 - 4 * course, 2));
            }
            c.due(7, fresh().cell(2, 6, 2));
            PebbleCourses x = fresh();
            x.set(0, 24);
            c.due(6, x.cell(5, 3, 2));
            c.due(NONE, x.cell(0, 23, 2));
        }).brokenBy("int meets(", "return NONE;", "return p;")
                .brokenBy("int meets(", "p * cells[c - 1] / cells[c]", "p * 8 / 7")
                .brokenBy("public int cell(", "return mosaic.meets(course, cell);", "return mosaic.meets(5, cell);");
        edges.edge("3: 1 if a joint there would run through three courses (whether there is one or "
                + "not), otherwise 0", c -> {
            PebbleCourses x = with("a44;b43");
            int[] due = {0, 0, 0, 0, 1, 0, 1}; // 6 meets 7, and that 8
            for (int p = 0; p < due.length; p++) {
                c.due(due[p], x.cell(2, p, 3));
            }
            x.lay(2, 3);
            c.due(1, x.cell(2, 4, 3)); // where none is, under no pebble
            x.lay(2, 2);
            c.due(1, x.cell(2, 4, 3)); // and under one
            c.due(1, with("c4;b4;a4").cell(2, 4, 3)); // where one is
            c.due(0, x.cell(1, 4, 3));
            c.due(0, x.cell(0, 4, 3));
        }).brokenBy("public int cell(", "mosaic.runsThrough(course, cell)",
                "mosaic.hasJoint(course, cell) && mosaic.runsThrough(course, cell)")
                .brokenBy("public int cell(", "mosaic.runsThrough(course, cell)",
                        "!mosaic.hasJoint(course, cell) && mosaic.runsThrough(course, cell)")
                .brokenBy("boolean runsThrough(", "p < 1", "p < 0");
        edges.edge("Returns the number.", c -> {
            PebbleCourses x = with("c4;b43;a44");
            int[][] due = {{4, 1, 0, 0}, {4, 0, 3, 0}, {NONE, 1, 4, 1}, {NONE, 0, 7, 1}};
            for (int what = 0; what <= 3; what++) {
                c.due(due[0][what], x.cell(2, 0, what));
                c.due(due[1][what], x.cell(2, 3, what));
                c.due(due[2][what], x.cell(2, 4, what));
                c.due(due[3][what], x.cell(2, 6, what));
            }
        }).brokenBy("public int cell(", "case 1:", "case 91:")
                .brokenBy("public int cell(", "case 2:", "case 92:");
        edges.edge("Throws `IndexOutOfBoundsException` if there is no such course or cell", c -> {
            c.indexOutside(0, 5, course -> fresh().cell(course, 0, 0));
            for (int n = 0; n < 6; n++) {
                int course = n;
                c.indexOutside(0, 31 - 4 * course, p -> fresh().cell(course, p, 0));
            }
        }).brokenBy("public int cell(",
                        "needCourse(course);\n        needIndex(cell >= 0 && cell < mosaic.cellsOf(course));",
                "needIndex(cell >= 0 && cell < mosaic.cellsOf(Math.max(course, 0)));")
                .brokenBy("public int cell(", "needIndex(cell >= 0", "needIndex(cell >= -1")
                .brokenBy("public int cell(", "cell < mosaic.cellsOf(course)", "cell <= mosaic.cellsOf(course)");
        edges.edge("Throws `IllegalArgumentException` if what is not 0 to 3", c -> {
            c.argumentOutside(0, 3, what -> fresh().cell(5, 11, what));
            c.takes(0, 3, what -> fresh().cell(5, 11, what));
        }).brokenBy("public int cell(", "what >= 0", "what >= -1")
                .brokenBy("public int cell(", "what >= 0", "what > 0")
                .brokenBy("public int cell(", "what < CELL_ANSWERS", "what <= CELL_ANSWERS")
                .brokenBy("public int cell(", "what < CELL_ANSWERS", "what < CELL_ANSWERS - 1");
    }

    private static void refusal(Edges edges) {
        edges.edge("Tells why a pebble would be refused.", c -> {
            onlyLooks(c, 2, y -> y.refusal(5, 2, false));
            onlyLooks(c, 0, y -> y.refusal(5, 1, false));
        }).brokenBy("public int refusal(", "needSize(size);", "needSize(size); history.save(mosaic);");
        edges.edge("`course`: 0 to 5", c -> c.takes(0, 5, course -> fresh().refusal(course, 1, false)))
                .brokenBy("public int refusal(", "needCourse(course);", "needCourse(course - 1);")
                .brokenBy("public int refusal(", "needCourse(course);", "needCourse(course + 1);");
        edges.edge("`size`: 1 to 6", c -> {
            for (int size = 1; size <= 6; size++) {
                c.due(0, fresh().refusal(0, size, false));
                c.due(size == 6 ? 3 : 0, fresh().refusal(0, size, true));
            }
        }).brokenBy("public int refusal(", "needSize(size);", "needSize(size - 1);")
                .brokenBy("public int refusal(", "needSize(size);", "needSize(size + 1);");
        edges.edge("`isFiller`: whether it would be a filler", c -> {
            PebbleCourses x = fresh();
            c.due(0, x.refusal(0, 6, false));
            c.due(3, x.refusal(0, 6, true));
            onlyStockOf(x, 6, 1);
            c.due(3, x.refusal(0, 5, false));
            c.due(0, x.refusal(0, 5, true));
        }).brokenBy("public int refusal(", "size, isFiller)", "size, false)")
                .brokenBy("public int refusal(", "size, isFiller)", "size, !isFiller)");
        edges.edge("Returns the reason, 1 to 4, 0 if it would not be.", c -> {
            for (int n = 0; n < 2; n++) {
                boolean isFiller = n == 1;
                c.due(1, with("f66").refusal(5, 1, isFiller));
                c.due(2, with("f65").refusal(5, 2, isFiller));
                PebbleCourses none = fresh();
                onlyStockOf(none, 5, 0);
                c.due(3, none.refusal(0, 5, isFiller));
                c.due(4, with("a4;b4").refusal(2, 4, isFiller));
                c.due(0, with("a4;b4").refusal(2, 5, isFiller));
                c.due(0, with("f65").refusal(5, 1, isFiller));
            }
        }).brokenBy("int reasonAgainst(", "return 1;", "return 2;")
                .brokenBy("int reasonAgainst(", "return 2;", "return 3;")
                .brokenBy("int reasonAgainst(", "return 3;", "return 4;")
                .brokenBy("int reasonAgainst(", "? 4 : 0", "? 5 : 0")
                .brokenBy("int reasonAgainst(", "? 4 : 0", "? 4 : NONE");
        edges.edge(NO_COURSE, c -> c.indexOutside(0, 5, course -> fresh().refusal(course, 1, false)))
                .brokenBy("public int refusal(", "needCourse(course);", "needCourse(Math.max(course, 0));")
                .brokenBy("public int refusal(", "needCourse(course);", "needCourse(Math.min(course, 5));");
        edges.edge(NO_SIZE, c -> {
            c.argumentOutside(1, 6, size -> fresh().refusal(0, size, false));
            c.argumentOutside(1, 6, size -> with("f66").refusal(5, size, true));
        }).brokenBy("public int refusal(", "needSize(size);", "needSize(Math.max(size, 1));")
                .brokenBy("public int refusal(", "needSize(size);", "needSize(Math.min(size, 6));");
    }

    private static void stockOf(Edges edges) {
        edges.edge("Returns the stock of a size.", c -> onlyLooks(c, 8, y -> y.stockOf(6)))
                .brokenBy("public int stockOf(", "mosaic.inStock(size)", "mosaic.changeStock(size, 0)");
        edges.edge("`size`: 1 to 6", c -> {
            PebbleCourses x = fresh();
            for (int size = 1; size <= 6; size++) {
                x.stock(size, 10 + size);
            }
            for (int size = 1; size <= 6; size++) {
                c.due(10 + size, x.stockOf(size));
            }
        }).brokenBy("public int stockOf(", "needSize(size);", "needSize(size - 1);")
                .brokenBy("public int stockOf(", "needSize(size);", "needSize(size + 1);");
        edges.edge("Returns how many pebbles.", c -> {
            PebbleCourses x = fresh();
            c.due(9, x.stockOf(6));
            x.stock(6, 0);
            c.due(0, x.stockOf(6));
            x.stock(6, 99);
            c.due(99, x.stockOf(6));
            x.lay(0, 6);
            c.due(98, x.stockOf(6));
            x.cut(0, 5);
            c.due(97, x.stockOf(6));
            x.takeUp(0, 2);
            c.due(98, x.stockOf(6));
        }).brokenBy("int inStock(", "stock[size] : 0", "size * stock[size] : 0")
                .brokenBy("int inStock(", "stock[size] : 0", "Math.min(stock[size], 98) : 0");
        edges.edge(NO_SIZE, c -> c.argumentOutside(1, 6, size -> fresh().stockOf(size)))
                .brokenBy("public int stockOf(", "needSize(size);", "needSize(Math.max(size, 1));")
                .brokenBy("public int stockOf(", "needSize(size);", "needSize(Math.min(size, 6));");
    }

    private static void count(Edges edges) {
        edges.edge("Returns a number.", c -> onlyLooks(c, 6, y -> y.count(0)))
                .brokenBy("public int count(", "mosaic.summed(PEBBLES)",
                        "mosaic.takeUpLast(0, 1) + mosaic.summed(PEBBLES)");
        edges.edge("`what`: 0: pebbles that lie;", c -> {
            PebbleCourses x = with("a12!;f66");
            c.due(0, fresh().count(0));
            c.due(4, x.count(0));
            x.takeUp(5, 1);
            c.due(3, x.count(0)); // not those that lay once
        }).brokenBy("public int count(", "mosaic.summed(PEBBLES)", "mosaic.property(0, PEBBLES)")
                .brokenBy("int pebblesOf(", "!= 0", "> 0");
        edges.edge("1: courses that are closed;", c -> {
            PebbleCourses x = with("f66");
            c.due(0, fresh().count(1));
            c.due(0, with("f65").count(1));
            c.due(1, x.count(1));
            x.fillAll();
            c.due(6, x.count(1));
            x.takeUp(0, 1);
            c.due(5, x.count(1));
        }).brokenBy("int property(", "freeOf(c) == 0 ?", "freeOf(c) <= 1 ?")
                .brokenBy("int summed(", "c < COURSES", "c < COURSES - 1");
        edges.edge("2: joints;", c -> {
            c.due(0, fresh().count(2));
            c.due(2 + 3 + 2, with("a1;b11;f66").count(2));
        }).brokenBy("public int count(", "mosaic.summed(JOINTS)", "mosaic.summed(PEBBLES)")
                .brokenBy("int jointsOf(", "p = 0", "p = 1");
        edges.edge("3: joints that run through three courses now (courses outside can be laid later);", c -> {
            PebbleCourses x = with("c4;b4");
            c.due(0, x.count(3));
            x.lay(0, 4);
            c.due(1, x.count(3)); // laid later
            x.takeUp(0, 1);
            c.due(0, x.count(3));
            c.due(1, with("c1;b1;a1").count(3));
            c.due(2, with("f3;e4;d5;c6").count(3)); // of the courses 4 and 5
            c.due(2, with("c43;b44;a45").count(3)); // at 4, and 7 meets 8, and that 9
            c.due(0, with("a4;b4").count(3)); // where one would, but none is
        }).brokenBy("int throughJoints(", "hasJoint(c, p) && ", "")
                .brokenBy("int throughJoints(", "p = 1", "p = 2")
                .brokenBy("int throughJoints(", "c < COURSES", "c < COURSES - 1")
                .brokenBy("int throughJoints(", "c = 2", "c = 3");
        edges.edge("4: fillers that lie;", c -> {
            PebbleCourses x = with("a1!2;b3!;f4!5");
            c.due(0, fresh().count(4));
            c.due(3, x.count(4));
            x.takeUp(0, 2);
            c.due(2, x.count(4)); // not those that lay once
            x.takeUp(0, 1);
            c.due(2, x.count(4));
        }).brokenBy("public int count(", "mosaic.summed(FILLERS)", "mosaic.property(0, FILLERS)")
                .brokenBy("int fillersOf(", "< 0", "!= 0");
        edges.edge("5: the waste so far, in cells;", c -> {
            PebbleCourses x = fresh();
            c.due(0, x.count(5));
            x.cut(0, 5);
            c.due(1, x.count(5));
            x.stock(5, 0);
            x.cut(0, 4);
            c.due(1 + 2, x.count(5));
            x.stock(4, 99);
            x.takeUp(0, 1);
            c.due(3 + 4, x.count(5)); // in cells, not in pebbles
            x.takeUp(0, 1);
            c.due(7, x.count(5)); // what is waste stays waste
            x.stock(4, 0);
            c.due(7, x.count(5));
            x.undo();
            x.undo();
            x.undo();
            c.due(3, x.count(5));
        }).brokenBy("void bringBack(", "waste += size;", "waste++;")
                .brokenBy("int put(", "waste += source - size;", "waste++;")
                .brokenBy("int changeStock(", "stock[size] = many;",
                        "waste += Math.max(0, stock[size] - many); stock[size] = many;");
        edges.edge("6: the stock, in cells;", c -> {
            PebbleCourses x = fresh();
            c.due(189, x.count(6));
            for (int size = 1; size <= 6; size++) {
                onlyStockOf(x, size, 99);
                c.due(99 * size, x.count(6));
            }
            onlyStockOf(x, 1, 0);
            c.due(0, x.count(6));
        }).brokenBy("int stockCells(", "size * inStock(size)", "inStock(size)")
                .brokenBy("int stockCells(", "size <= GREATEST_SIZE", "size < GREATEST_SIZE")
                .brokenBy("int stockCells(", "size = 1", "size = 2");
        edges.edge("7: saved states", c -> {
            PebbleCourses x = fresh();
            for (int n = 0; n <= 8; n++) {
                c.due(Math.min(n, 6), x.count(7));
                x.stock(1, 9);
            }
            x.undo();
            c.due(5, x.count(7));
        }).brokenBy("void save(", "Math.min(many + 1, MOST_SAVED)", "many + 1")
                .brokenBy("", "MOST_SAVED = 6", "MOST_SAVED = 5");
        edges.edge("Returns the number.", c -> {
            PebbleCourses x = fresh();
            x.lay(2, 4);
            x.lay(1, 4);
            x.lay(0, 4);
            x.cut(5, 5);
            x.lay(5, 6);
            x.cut(5, 1);
            int[] due = {6, 1, 9, 1, 2, 2, 189 - 12 - 6 - 6 - 2, 6};
            for (int what = 0; what <= 7; what++) {
                c.due(due[what], x.count(what));
            }
        }).brokenBy("public int count(", "case 1:", "case 91:")
                .brokenBy("public int count(", "case 5:", "case 95:")
                .brokenBy("public int count(", "case 6:", "case 96:");
        edges.edge("Throws `IllegalArgumentException` if what is not 0 to 7", c -> {
            c.argumentOutside(0, 7, what -> fresh().count(what));
            c.takes(0, 7, what -> fresh().count(what));
        }).brokenBy("public int count(", "what >= 0", "what >= -1")
                .brokenBy("public int count(", "what >= 0", "what > 0")
                .brokenBy("public int count(", "what < COUNTS", "what <= COUNTS")
                .brokenBy("public int count(", "what < COUNTS", "what < COUNTS - 1");
    }

    private static void setting(Edges edges) {
        edges.edge("Returns a setting.", c -> onlyLooks(c, 32, y -> y.setting(0)))
                .brokenBy("public int setting(", "needSetting(", "history.save(mosaic); needSetting(");
        edges.edge("`setting`: 0 to 2", c -> c.takes(0, 2, setting -> fresh().setting(setting)))
                .brokenBy("public int setting(", "needSetting(setting);", "needSetting(setting - 1);")
                .brokenBy("public int setting(", "needSetting(setting);", "needSetting(setting + 1);");
        edges.edge("Returns its value.", c -> {
            PebbleCourses x = fresh();
            int[] first = {32, 0, 0};
            int[] least = {24, 0, 0};
            int[] most = {60, 2, 1};
            for (int setting = 0; setting <= 2; setting++) {
                c.due(first[setting], x.setting(setting));
                x.set(setting, most[setting]);
                c.due(most[setting], x.setting(setting));
                x.set(setting, least[setting]);
                c.due(least[setting], x.setting(setting));
                x.undo();
                c.due(most[setting], x.setting(setting));
            }
        }).brokenBy("int settingOf(", "rule : cutting", "cutting : rule")
                .brokenBy("int settingOf(", "cells[0]", "cells[1]");
        edges.edge("Throws `IndexOutOfBoundsException` if there is no such setting",
                c -> c.indexOutside(0, 2, setting -> fresh().setting(setting)))
                .brokenBy("public int setting(", "needSetting(setting);", "needSetting(Math.max(setting, 0));")
                .brokenBy("public int setting(", "needSetting(setting);", "needSetting(Math.min(setting, 2));");
    }
}
