/** The sentences of the section "Terms", up to those on filling. */
final class CourseEdges extends Mosaics {
    private CourseEdges() {
    }

    static void add(Edges edges) {
        edges.in("Terms");
        courses(edges);
        joints(edges);
        throughThree(edges);
        stock(edges);
        reasons(edges);
        fillers(edges);
        takingUp(edges);
        filling(edges);
    }

    private static void courses(Edges edges) {
        edges.edge("All numbers are integers, but for a share; divisions are rounded down.", c -> {
            c.due(1, fresh().cell(1, 1, 2));   // 32 / 28
            c.due(14, fresh().cell(5, 11, 2)); // 176 / 12
            c.due(30, fresh().cell(1, 27, 2)); // 864 / 28
        }).brokenBy("int meets(", "p * cells[c - 1] / cells[c]", "(p * cells[c - 1] + cells[c] - 1) / cells[c]")
                .brokenBy("int meets(", "p * cells[c - 1] / cells[c]", "(p * cells[c - 1] + cells[c] / 2) / cells[c]");
        edges.edge("There are 6 courses, numbered from 0, the outermost one.", c -> {
            PebbleCourses x = fresh();
            c.takes(0, 5, n -> x.course(n, 0));
            c.indexOutside(0, 5, n -> x.course(n, 0));
            for (int n = 1; n < 6; n++) {
                c.holds(x.course(n, 0) < x.course(n - 1, 0));
            }
        }).brokenBy("void needCourse(", "course < COURSES", "course <= COURSES")
                .brokenBy("void needCourse(", "course >= 0", "course > 0")
                .brokenBy("void needCourse(", "course >= 0", "course >= -1");
        edges.edge("The course c is a ring of setting 0 less 4 * c cells, numbered from 0.", c -> {
            for (int cells : new int[] {24, 32, 37, 60}) {
                PebbleCourses x = fresh();
                x.set(0, cells);
                for (int n = 0; n < 6; n++) {
                    int course = n;
                    c.due(cells - 4 * n, x.course(n, 0));
                    c.due(NONE, x.cell(n, 0, 0));
                    c.due(NONE, x.cell(n, cells - 4 * n - 1, 0));
                    c.indexOutside(0, cells - 4 * n - 1, p -> x.cell(course, p, 0));
                }
            }
        }).brokenBy("void changeSetting(", "value - CELLS_LESS * c", "value - CELLS_LESS * Math.min(c, 4)")
                .brokenBy("public int cell(", "cell < mosaic", "cell <= mosaic")
                .brokenBy("public int cell(", "cell >= 0", "cell >= -1");
        edges.edge("Its pebbles are laid from the cell 0 on, one behind the other;", c -> {
            PebbleCourses x = fresh();
            c.due(0, x.lay(1, 3));
            c.due(3, x.lay(1, 2));
            c.due(0, x.lay(5, 1));
            x.cut(1, 1);
            c.dueText("333221......................", sizes(x, 1));
            c.dueText("1...........", sizes(x, 5));
        }).brokenBy("int put(", "taken[c] += size;", "taken[c] += size + (c == 1 ? 1 : 0);");
        edges.edge("a pebble has a size, 1 to 6, and takes as many cells side by side.", c -> {
            for (int size = 1; size <= 6; size++) {
                PebbleCourses x = fresh();
                x.lay(5, size);
                c.due(12 - size, x.course(5, 2));
                c.dueText(Integer.toString(size).repeat(size) + ".".repeat(12 - size), sizes(x, 5));
            }
            c.argumentOutside(1, 6, size -> fresh().lay(5, size));
        }).brokenBy("int sizeAt(", "p >= takenOf(c)", "p > takenOf(c)")
                .brokenBy("void needSize(", "size <= GREATEST_SIZE", "size < GREATEST_SIZE")
                .brokenBy("void needSize(", "size >= 1", "size >= 0");
        edges.edge("A course is closed if its pebbles take all its cells.", c -> {
            PebbleCourses x = with("f65");
            c.due(0, fresh().course(5, 3));
            c.due(0, x.course(5, 3));
            x.lay(5, 1);
            c.due(1, x.course(5, 3));
            c.due(1, with("f662").count(1));
        }).brokenBy("int property(", "freeOf(c) == 0 ?", "freeOf(c) <= 1 ?")
                .brokenBy("int property(", "freeOf(c) == 0 ?", "freeOf(c) < 0 ?");
    }

    private static void joints(Edges edges) {
        edges.edge("A course has a joint at a cell if a pebble begins there;", c -> {
            c.dueText("[0, 1, 3, 6]", joints(with("f1236"), 5));
            c.dueText("[0, 1, 3, 6]", joints(with("f1!2!36"), 5));
            c.dueText("[0, 6]", joints(with("f66"), 5));
        }).brokenBy("boolean hasJoint(", "+ p] != 0", "+ p] > 0")
                .brokenBy("boolean hasJoint(", "+ p] != 0", "+ p] < 0")
                .brokenBy("boolean hasJoint(", "isBehindLast ||", "isBehindLast || sizeAt(c, p) != NONE ||");
        edges.edge("and, as long as it is not closed, also at the cell behind its last pebble, if there is one.", c -> {
            PebbleCourses x = with("f641");
            c.dueText("[0, 6, 10, 11]", joints(x, 5));
            c.due(4, x.course(5, 4));
            x.lay(5, 1);
            c.dueText("[0, 6, 10, 11]", joints(x, 5));
            c.due(4, x.course(5, 4));
            c.due(2, with("f66").course(5, 4));
            c.dueText("[0, 1]", joints(with("b1"), 1));
        }).brokenBy("boolean hasJoint(", "isBehindLast ||", "isBehindLast && p + 1 < cells[c] ||")
                .brokenBy("boolean hasJoint(", "isBehindLast ||", "")
                .brokenBy("int property(", "return jointsOf(c);", "return pebblesOf(c) + (taken[c] > 0 ? 1 : 0);");
        edges.edge("(So an empty course has none, and the joint at 0 is there as soon as there is a pebble.)", c -> {
            PebbleCourses x = fresh();
            for (int n = 0; n < 6; n++) {
                c.due(0, x.course(n, 4));
                c.due(0, x.cell(n, 0, 1));
                x.lay(n, 1);
                c.due(1, x.cell(n, 0, 1));
                x.takeUp(n, 1);
                c.due(0, x.cell(n, 0, 1));
            }
        }).brokenBy("boolean hasJoint(", "p > 0 && p == taken[c]", "p == taken[c]")
                .brokenBy("boolean hasJoint(", "p < 0 ||", "p < 1 ||");
        edges.edge("The cell p of the course c meets, outside of it, "
                + "the cell p * (cells of the course c - 1) / (cells of the course c) of the course c - 1.", c -> {
            for (int cells : new int[] {24, 32, 37, 60}) {
                PebbleCourses x = fresh();
                x.set(0, cells);
                for (int n = 1; n < 6; n++) {
                    for (int p = 0; p < cells - 4 * n; p++) {
                        c.due(p * (cells - 4 * n + 4) / (cells - 4 * n), x.cell(n, p, 2));
                    }
                }
            }
        }).brokenBy("int meets(", "p * cells[c - 1] / cells[c]", "p * cells[0] / cells[c]")
                .brokenBy("int meets(", "p * cells[c - 1] / cells[c]", "p * cells[c] / cells[c - 1]");
    }

    private static void throughThree(Edges edges) {
        edges.edge("A joint of a course c of 2 or more at a cell runs through three courses "
                + "if the cell that it meets in the course c - 1 has a joint, "
                + "and the cell which that one meets in the course c - 2 has one, too.", c -> {
            c.due(1, with("c4;b4;a4").cell(2, 4, 3));
            c.due(0, with("c4;b4").cell(2, 4, 3));
            c.due(0, with("c4;a4").cell(2, 4, 3));
            c.due(0, with("b4;a4").cell(1, 4, 3));
            c.due(0, with("a4").cell(0, 4, 3));
            c.due(1, barredAtSix().cell(2, 6, 3)); // 6 meets 7, and that 8
            c.due(0, with("a61;b61").cell(2, 6, 3));
            c.due(1, with("d3;c3;b3").cell(3, 3, 3));
            c.due(1, with("f3;e4;d5").cell(5, 3, 3)); // 3 meets 4, and that 5
        }).brokenBy("boolean runsThrough(", "outside) && hasJoint", "outside) || hasJoint")
                .brokenBy("boolean runsThrough(", "c < 2", "c < 3")
                .brokenBy("boolean runsThrough(", "meets(c - 1, outside)", "outside");
        edges.edge("The joint at the cell 0 is left out: it never counts as running through.", c -> {
            PebbleCourses x = with("a6;b6;c6;d6;e6;f5");
            for (int n = 0; n < 6; n++) {
                c.due(1, x.cell(n, 0, 1));
                c.due(0, x.cell(n, 0, 3));
            }
            c.due(0, with("a2;b3;c1").count(3));
        }).brokenBy("boolean runsThrough(", "p < 1", "p < 0");
    }

    private static void stock(Edges edges) {
        edges.edge("The stock has, of each size, 0 to 99 pebbles, at first 9.", c -> {
            PebbleCourses x = fresh();
            for (int n = 1; n <= 6; n++) {
                int size = n;
                c.due(9, x.stockOf(size));
                c.takes(0, 99, many -> x.stock(size, many));
                c.due(99, x.stockOf(size));
                c.argumentOutside(0, 99, many -> x.stock(size, many));
            }
            x.lay(0, 1);
            x.stock(1, 99);
            x.takeUp(0, 1);
            c.due(99, x.stockOf(1));
            x.stock(1, 0);
            c.state(() -> x.lay(0, 1));
            c.due(0, x.stockOf(1));
        }).brokenBy("", "FIRST_STOCK = 9", "FIRST_STOCK = 10")
                .brokenBy("", "MOST_STOCK = 99", "MOST_STOCK = 98")
                .brokenBy("", "MOST_STOCK = 99", "MOST_STOCK = 100")
                .brokenBy("void bringBack(", "stock[size] < MOST_STOCK", "stock[size] <= MOST_STOCK")
                .brokenBy("private int sourceOf(", "inStock(size) > 0", "inStock(size) >= 0");
        edges.edge("A pebble of a size is laid behind the last one of a course.", c -> {
            PebbleCourses x = with("a655");
            c.due(16, x.lay(0, 3));
            x.takeUp(0, 3);
            c.due(6, x.lay(0, 1));
            c.dueText("6666661" + ".".repeat(25), sizes(x, 0));
            PebbleCourses last = with("f641");
            c.due(11, last.lay(5, 1));
            c.dueText("666666444411", sizes(last, 5));
        }).brokenBy("int takeUpLast(", "taken[c] = p;", "taken[c] = Math.max(p, 16);")
                .brokenBy("public int lay(", "mosaic.takenOf(course)", "mosaic.property(course, PEBBLES)");
    }

    private static void reasons(Edges edges) {
        edges.edge("It is refused, for the first of these reasons that applies:", c -> {
            PebbleCourses x = with("f65");
            onlyStockOf(x, 1, 0);
            c.due(2, x.refusal(5, 2, false)); // of 2 and 3
            c.due(2, x.refusal(5, 2, true));
            c.due(3, x.refusal(5, 1, false));
            x.stock(1, 1);
            x.lay(5, 1);
            c.due(1, x.refusal(5, 1, false)); // of 1, 2 and 3
            c.due(1, x.refusal(5, 1, true));
            PebbleCourses y = barredAtSix();
            c.due(4, y.refusal(2, 6, false));
            c.due(3, y.refusal(2, 6, true)); // of 3 and 4
            y.stock(6, 0);
            c.due(3, y.refusal(2, 6, false));
        }).brokenBy("int reasonAgainst(", "return 1;", "return size > free ? 2 : 1;")
                .brokenBy("int reasonAgainst(", "return 2;", "return sourceOf(size, isFiller) == 0 ? 3 : 2;")
                .brokenBy("int reasonAgainst(", "return 3;",
                        "return size < free && runsThrough(c, takenOf(c) + size) ? 4 : 3;");
        edges.edge("1: the course is closed;", c -> {
            PebbleCourses closed = with("f66");
            for (int size = 1; size <= 6; size++) {
                c.due(1, closed.refusal(5, size, false));
                c.due(1, closed.refusal(5, size, true));
            }
            c.due(0, with("f641").refusal(5, 1, false));
            c.due(0, closed.refusal(4, 6, false));
        }).brokenBy("int reasonAgainst(", "free == 0", "free <= 1")
                .brokenBy("int reasonAgainst(", "free == 0", "free < 0");
        edges.edge("2: it is longer than the cells that are free there;", c -> {
            for (int free = 1; free <= 5; free++) {
                PebbleCourses x = with("f6" + (6 - free));
                c.due(free, x.course(5, 2));
                c.due(0, x.refusal(5, free, false));
                c.due(0, x.refusal(5, free, true));
                c.due(2, x.refusal(5, free + 1, false));
                c.due(2, x.refusal(5, free + 1, true));
            }
            c.due(0, with("f6").refusal(5, 6, false));
        }).brokenBy("int reasonAgainst(", "size > free", "size >= free")
                .brokenBy("int reasonAgainst(", "size > free", "size > free + 1");
        edges.edge("3: the stock has none of this size;", c -> {
            for (int size = 1; size <= 6; size++) {
                PebbleCourses x = fresh();
                x.stock(size, 1);
                c.due(0, x.refusal(0, size, false));
                x.lay(0, size);
                c.due(3, x.refusal(0, size, false));
                x.stock(size, 1);
                c.due(0, x.refusal(0, size, false));
            }
        }).brokenBy("private int sourceOf(", "inStock(size) > 0", "inStock(size) > 1")
                .brokenBy("private int sourceOf(", "inStock(size) > 0", "inStock(size) >= 0");
        edges.edge("4: the joint that it makes behind it runs through three courses.", c -> {
            PebbleCourses x = barredAtSix();
            c.due(0, x.refusal(2, 5, false));
            c.due(4, x.refusal(2, 6, false));
            x.lay(2, 5);
            c.due(4, x.refusal(2, 1, false));
            c.due(4, x.refusal(2, 1, true));
            c.due(0, x.refusal(2, 2, false));
            c.due(4, with("d5;e4").refusal(5, 3, false));
            c.due(0, with("a4").refusal(1, 4, false)); // the course 1 has but one outside
            c.due(0, with("c4;b4;a4").refusal(2, 6, false)); // where one runs through already
        }).brokenBy("int reasonAgainst(", "runsThrough(c, takenOf(c) + size)", "runsThrough(c, takenOf(c))")
                .brokenBy("int reasonAgainst(", "size < free && runsThrough", "size < 0 && runsThrough")
                .brokenBy("boolean runsThrough(", "c < 2", "c == 5");
        edges.edge("(A pebble that closes its course makes none.)", c -> {
            PebbleCourses x = with("a1;b1;c666");
            c.due(0, x.refusal(2, 6, false));
            c.due(18, x.lay(2, 6));
            c.due(1, x.course(2, 3));
            c.dueText("[0, 6, 12, 18]", joints(x, 2));
            c.due(0, x.count(3));
        }).brokenBy("int reasonAgainst(", "size < free && runsThrough(c, takenOf(c) + size)",
                "(size < free ? runsThrough(c, takenOf(c) + size) : hasJoint(c - 1, 0) && hasJoint(c - 2, 0))");
    }

    private static void fillers(Edges edges) {
        edges.edge("To cut a filler of a size is to lay a pebble of this size that is cut from a greater one: "
                + "the stock has one less of the least greater size of which it has any, "
                + "and what is left of that is waste.", c -> {
            PebbleCourses x = fresh();
            c.due(1, x.cut(0, 1));
            c.due(9, x.stockOf(1));
            c.due(8, x.stockOf(2));
            x.stock(2, 0);
            x.stock(3, 1);
            c.due(2, x.cut(0, 1));
            c.due(0, x.stockOf(3));
            c.due(3, x.cut(0, 1));
            c.due(8, x.stockOf(4));
            onlyStockOf(x, 6, 1);
            c.due(5, x.cut(0, 1));
            c.due(0, x.stockOf(6));
            c.due(11, x.count(5));
            c.dueText("1111" + ".".repeat(28), sizes(x, 0));
        }).brokenBy("private int sourceOf(", "greater = size + 1", "greater = size")
                .brokenBy("private int sourceOf(", "return greater;", "return inStock(6) > 0 ? 6 : greater;")
                .brokenBy("int put(", "waste += source - size;", "")
                .brokenBy("int put(", "stock[source]--;", "stock[isFiller ? size : source]--;");
        edges.edge("The reasons are the same, but 3: the stock has no greater one.", c -> {
            PebbleCourses x = fresh();
            c.due(3, x.refusal(0, 6, true));
            for (int size = 1; size <= 5; size++) {
                onlyStockOf(x, size, 9);
                c.due(3, x.refusal(0, size, true));
                onlyStockOf(x, size + 1, 1);
                c.due(0, x.refusal(0, size, true));
                onlyStockOf(x, 6, 1);
                c.due(0, x.refusal(0, size, true));
            }
            x.cut(0, 3);
            c.due(3, x.refusal(0, 3, true));
            c.due(1, with("f66").refusal(5, 6, true));
            c.due(2, with("f65").refusal(5, 6, true));
            c.due(4, with("a4;b4").refusal(2, 4, true));
        }).brokenBy("private int sourceOf(", "greater <= GREATEST_SIZE", "greater < GREATEST_SIZE")
                .brokenBy("private int sourceOf(", "greater = size + 1", "greater = size")
                .brokenBy("private int sourceOf(", "if (inStock(greater) > 0)", "if (inStock(greater) > 1)");
    }

    private static void takingUp(Edges edges) {
        edges.edge("The last pebble of a course can be taken up: it comes back to the stock by its size", c -> {
            PebbleCourses x = with("a612!");
            x.takeUp(0, 1);
            c.dueText("6666661" + ".".repeat(25), sizes(x, 0));
            c.due(10, x.stockOf(2)); // a filler, too: by its own size
            c.due(8, x.stockOf(3));
            c.due(1, x.count(5));
            x.takeUp(0, 1);
            c.due(9, x.stockOf(1));
            x.takeUp(0, 1);
            c.due(9, x.stockOf(6));
            c.due(0, x.count(0));
            PebbleCourses closed = with("f66");
            closed.takeUp(5, 1);
            c.dueText("666666......", sizes(closed, 5));
        }).brokenBy("int takeUpLast(", "bringBack(taken[c] - p);", "")
                .brokenBy("void bringBack(", "stock[size]++;", "stock[Math.min(size, 5)]++;")
                .brokenBy("int takeUpLast(", "bringBack(taken[c] - p);", "bringBack(taken[c] - p + (c == 0 ? 1 : 0));");
        edges.edge("(if the stock has 99 of it already, it is waste).", c -> {
            PebbleCourses x = with("a5!55");
            x.stock(5, 98);
            c.due(1, x.count(5));
            x.takeUp(0, 1);
            c.due(99, x.stockOf(5));
            c.due(1, x.count(5));
            x.takeUp(0, 1);
            c.due(99, x.stockOf(5));
            c.due(6, x.count(5));
            x.takeUp(0, 1);
            c.due(99, x.stockOf(5));
            c.due(11, x.count(5));
            c.due(0, x.count(0));
        }).brokenBy("void bringBack(", "stock[size] < MOST_STOCK", "stock[size] < MOST_STOCK - 1")
                .brokenBy("void bringBack(", "waste += size;", "")
                .brokenBy("void bringBack(", "waste += size;", "waste++;");
    }

    private static void filling(Edges edges) {
        edges.edge("To fill a course: as long as it is not closed, and some size is not refused, "
                + "the one by the rule is laid:", c -> {
            PebbleCourses x = fresh();
            x.set(0, 60);
            onlyStockOf(x, 1, 99);
            c.due(60, x.fill(0));
            c.due(1, x.course(0, 3));
            c.due(0, x.fill(0)); // it is closed
            c.due(39, x.fill(1)); // until all sizes are refused
            c.due(0, x.fill(2)); // they are from the beginning
        }).brokenBy("int fillCourse(", "laid < MOST_CELLS", "laid < MOST_CELLS - 1")
                .brokenBy("int fillCourse(", "laid < MOST_CELLS", "laid < 32");
        edges.edge("by setting 1 as 0: the greatest;", c -> {
            PebbleCourses x = with("a62;b61");
            x.stock(4, 0);
            x.fill(2); // 6 is refused at first, because of the cell 6; at last by what is free
            c.dueText("55555" + "6".repeat(18) + "1", sizes(x, 2));
            x.takeUp(2, 60);
            x.stock(5, 0);
            x.stock(6, 0);
            x.fill(2); // 3, but where its joint would come to the cell 6
            c.dueText("33322" + "3".repeat(18) + "1", sizes(x, 2));
        }).brokenBy("int sizeByRule(", "byRule == RULE_GREATEST", "byRule == RULE_GREATEST && size < 6")
                .brokenBy("int sizeByRule(", "size <= GREATEST_SIZE", "size < GREATEST_SIZE");
        edges.edge("as 1: the least;", c -> {
            PebbleCourses x = with("a62;b61");
            x.set(1, 1);
            x.stock(1, 7);
            x.fill(2); // 1 is refused where its joint would come to 6
            c.dueText("111112211" + "2".repeat(14) + ".", sizes(x, 2));
        }).brokenBy("int sizeByRule(", "byRule == RULE_GREATEST", "byRule < RULE_MOST_STOCK")
                .brokenBy("int sizeByRule(", "chosen == 0 ||", "chosen <= 1 ||");
        edges.edge("as 2: the one of which the stock has most, of several the greatest.", c -> {
            PebbleCourses x = fresh();
            x.set(1, 2);
            x.stock(2, 10);
            x.fill(5); // 2, then 6 of all; then 5, 4 and more are too long or fewer
            c.dueText("226666664444", sizes(x, 5));
            PebbleCourses y = barredAtSix();
            y.set(1, 2);
            y.stock(6, 50);
            y.stock(3, 40);
            y.fill(2); // 6 is most, but is refused at first
            c.dueText("333" + "6".repeat(18) + "333", sizes(y, 2));
        }).brokenBy("int sizeByRule(", ">= inStock(chosen)", "> inStock(chosen)")
                .brokenBy("int sizeByRule(", ">= inStock(chosen)", "<= inStock(chosen)")
                .brokenBy("int sizeByRule(", "byRule == RULE_GREATEST", "byRule != 1");
        edges.edge("Then, with setting 2 as 1, if it is not closed, "
                + "a filler is cut of the greatest size for which none of the reasons applies, "
                + "and it goes on from the beginning;", c -> {
            PebbleCourses x = barredAtSix();
            onlyStockOf(x, 6, 9);
            c.due(0, x.fill(2)); // with the setting 2 as 0
            x.set(2, 1);
            c.due(5, x.fill(2));
            c.dueText("555556666666666666666661", sizes(x, 2));
            c.due(2, x.course(2, 6));
            c.due(6, x.count(5));
            PebbleCourses closed = with("f66");
            closed.set(2, 1);
            c.due(0, closed.fill(5));
            c.due(0, closed.count(4));
        }).brokenBy("int greatestFiller(", "size = GREATEST_SIZE", "size = GREATEST_SIZE - 2")
                .brokenBy("int fillCourse(", "cutting == 1", "cutting >= 0")
                .brokenBy("int fillCourse(", "size == 0 && cutting == 1", "size == 0 && cutting == 1 && laid == 0")
                .brokenBy("int fillCourse(", "boolean isFiller = size == 0 &&", "boolean isFiller = laid != 1 &&");
        edges.edge("without such a size it ends.", c -> {
            PebbleCourses x = fresh();
            x.set(2, 1);
            onlyStockOf(x, 1, 3);
            c.due(3, x.fill(5));
            c.due(9, x.course(5, 2));
            c.due(0, x.fill(5));
            onlyStockOf(x, 5, 2);
            c.due(2, x.fill(5)); // 5, then a filler of 4
            c.dueText("111555554444", sizes(x, 5));
            onlyStockOf(x, 6, 0);
            c.due(0, x.fill(4));
        }).brokenBy("int greatestFiller(", "return 0;", "return 1;")
                .brokenBy("int fillCourse(", "break;", "return laid + 1;");
    }
}
