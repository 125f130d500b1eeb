/** The sentences of the section "Terms" from the settings on. */
final class TermEdges extends Mosaics {
    private TermEdges() {
    }

    static void add(Edges edges) {
        edges.in("Terms");
        settings(edges);
        texts(edges);
        undo(edges);
        exceptions(edges);
    }

    private static void settings(Edges edges) {
        edges.edge("0: the cells of the outermost course, 24 to 60, at first 32", c -> {
            PebbleCourses x = fresh();
            c.due(32, x.setting(0));
            c.due(32, x.course(0, 0));
            c.takes(24, 60, cells -> x.set(0, cells));
            c.argumentOutside(24, 60, cells -> x.set(0, cells));
            c.due(60, x.setting(0));
            c.due(60, x.course(0, 0));
        }).brokenBy("", "FIRST_CELLS = 32", "FIRST_CELLS = 36")
                .brokenBy("boolean isSettingValue(", "value >= LEAST_CELLS", "value > LEAST_CELLS")
                .brokenBy("boolean isSettingValue(", "value >= LEAST_CELLS", "value >= LEAST_CELLS - 1")
                .brokenBy("boolean isSettingValue(", "value <= MOST_CELLS", "value < MOST_CELLS")
                .brokenBy("boolean isSettingValue(", "value <= MOST_CELLS", "value <= MOST_CELLS + 1");
        edges.edge("(only as long as no pebble is laid);", c -> {
            for (int n = 0; n < 6; n++) {
                PebbleCourses x = fresh();
                x.lay(n, 1);
                c.state(() -> x.set(0, 24));
                c.state(() -> x.set(0, 32)); // also where it would change nothing
                x.takeUp(n, 1);
                c.due(32, x.set(0, 24));
                x.undo();
                x.undo();
                c.state(() -> x.set(0, 60));
                x.undo();
                c.due(32, x.set(0, 60));
            }
        }).brokenBy("public int set(", "mosaic.summed(PEBBLES) == 0", "mosaic.summed(PEBBLES) <= 1")
                .brokenBy("public int set(", "mosaic.summed(PEBBLES) == 0", "mosaic.takenOf(0) == 0")
                .brokenBy("public int set(", "mosaic.summed(PEBBLES) == 0",
                        "(mosaic.summed(PEBBLES) == 0 || value == mosaic.settingOf(0))");
        edges.edge("1: the rule, 0 to 2, at first 0;", c -> {
            PebbleCourses x = fresh();
            c.due(0, x.setting(1));
            c.takes(0, 2, rule -> x.set(1, rule));
            c.argumentOutside(0, 2, rule -> x.set(1, rule));
            c.due(2, x.setting(1));
        }).brokenBy("boolean isSettingValue(", "setting == RULE_SETTING ? RULES", "setting == RULE_SETTING ? 4")
                .brokenBy("boolean isSettingValue(", "setting == RULE_SETTING ? RULES", "setting == RULE_SETTING ? 2")
                .brokenBy("boolean isSettingValue(", "value >= 0", "value >= -1")
                .brokenBy("", "private int rule;", "private int rule = 1;");
        edges.edge("2: 1 if fillers are cut in filling, otherwise 0, at first 0.", c -> {
            PebbleCourses x = fresh();
            c.due(0, x.setting(2));
            c.takes(0, 1, cutting -> x.set(2, cutting));
            c.argumentOutside(0, 1, cutting -> x.set(2, cutting));
            onlyStockOf(x, 5, 9);
            x.fill(5);
            c.due(1, x.count(4));
            x.undo();
            x.set(2, 0);
            x.fill(5);
            c.due(0, x.count(4));
        }).brokenBy("boolean isSettingValue(", "RULES : 2", "RULES : 3")
                .brokenBy("boolean isSettingValue(", "RULES : 2", "RULES : 1")
                .brokenBy("", "private int cutting;", "private int cutting = 1;")
                .brokenBy("int fillCourse(", "cutting == 1", "cutting == 0");
    }

    private static void texts(Edges edges) {
        edges.edge("The buffer has at most 60 characters.", c -> {
            PebbleCourses x = fresh();
            for (int length = 1; length <= 60; length++) {
                c.due(length, x.append(33 + length));
            }
            c.state(() -> x.append(97));
            c.due(60, x.clearBuffer());
            c.due(1, x.append(97));
        }).brokenBy("", "MOST_SIGNS = 60", "MOST_SIGNS = 59")
                .brokenBy("", "MOST_SIGNS = 60", "MOST_SIGNS = 61");
        edges.edge("Pebbles as a text are one or more parts with \";\" between them,", c -> {
            c.due(1, laid("a1"));
            c.due(2, laid("a1;a1"));
            PebbleCourses x = fresh();
            x.stock(1, 20);
            type(x, "a1;".repeat(19) + "a1");
            c.due(20, x.layAll());
            noText(c, "");
            noText(c, ";a1");
            noText(c, "a1;");
            noText(c, "a1;;b1");
            noText(c, "a1b1");
            noText(c, "a1,b1");
        }).brokenBy("boolean isComplete(", "isSize(last) ||", "isSize(last) || last == ';' ||")
                .brokenBy("boolean isComplete(", "return (", "return length == 0 || (")
                .brokenBy("boolean mayFollow(", "return isCourse(sign);", "return isCourse(sign) || sign == ';';")
                .brokenBy("boolean mayFollow(", "sign == ';' ||", "sign == ';' && before == '!' ||")
                .brokenBy("boolean mayFollow(", "return isSize(sign) ||", "return isSize(sign) || isCourse(sign) ||");
        edges.edge("each a course as a letter, \"a\" to \"f\" (0 to 5),", c -> {
            for (int n = 0; n < 6; n++) {
                PebbleCourses x = with((char) ('a' + n) + "1");
                c.due(1, x.course(n, 1));
                c.due(1, x.count(0));
            }
            for (String wrong : new String[] {"`1", "g1", "A1", "F1", "01", "z1"}) {
                noText(c, wrong);
            }
        }).brokenBy("static boolean isCourse(char", "sign >= 'a'", "sign > 'a'")
                .brokenBy("static boolean isCourse(char", "sign >= 'a'", "sign >= '`'")
                .brokenBy("static boolean isCourse(char", "sign <= 'f'", "sign < 'f'")
                .brokenBy("static boolean isCourse(char", "sign <= 'f'", "sign <= 'g'")
                .brokenBy("public int layAll(", "sign - 'a'", "'f' - sign");
        edges.edge("and one or more sizes, digits 1 to 6;", c -> {
            for (int size = 1; size <= 6; size++) {
                c.due(size, with("a" + size).cell(0, 0, 0));
            }
            c.due(6, laid("a654321"));
            for (String wrong : new String[] {"a", "a0", "a7", "a-1", "a/", "a1;b", "ab1", "a;b1", "a10"}) {
                noText(c, wrong);
            }
        }).brokenBy("static boolean isSize(char", "sign >= '1'", "sign >= '0'")
                .brokenBy("static boolean isSize(char", "sign >= '1'", "sign > '1'")
                .brokenBy("static boolean isSize(char", "sign <= '6'", "sign <= '7'")
                .brokenBy("static boolean isSize(char", "sign <= '6'", "sign < '6'")
                .brokenBy("boolean isComplete(", "isSize(last) ||", "isSize(last) || isCourse(last) ||");
        edges.edge("a size with \"!\" behind it is a filler.", c -> {
            PebbleCourses x = with("a2!2;b2!");
            c.due(1, x.course(0, 6));
            c.due(2, x.course(0, 1));
            c.due(1, x.course(1, 6));
            c.due(2, x.count(5));
            for (String wrong : new String[] {"!", "a!", "a!1", "a1!!", "a1;!", "a1;b!"}) {
                noText(c, wrong);
            }
        }).brokenBy("public int layAll(", "text.signAt(i + 1) == '!'", "false")
                .brokenBy("public int layAll(", "text.signAt(i + 1) == '!'", "text.signAt(i - 1) == '!'")
                .brokenBy("boolean mayFollow(", "sign == '!' && isSize(before)", "sign == '!'")
                .brokenBy("boolean isComplete(", "last == '!'", "last == '?'");
        edges.edge("The buffer is read from left to right; a character is a syntax error if no pebbles as a text, "
                + "of any length, begin with the characters before it and this character.", c -> {
            c.due(0, errorOf("1a"));
            c.due(0, errorOf("!"));
            c.due(0, errorOf(";"));
            c.due(1, errorOf("aa1"));
            c.due(1, errorOf("a;b"));
            c.due(1, errorOf("a!"));
            c.due(2, errorOf("a1b1"));
            c.due(2, errorOf("a1x;yz"));
            c.due(3, errorOf("a1!!"));
            c.due(3, errorOf("a1;;"));
            c.due(3, errorOf("a1;2"));
            c.due(5, errorOf("a12!;")); // what is not complete is no error
            c.due(60, errorOf("a" + "1".repeat(58) + ";")); // a text may be longer than the buffer
            c.due(59, errorOf("a" + "1".repeat(58) + "a"));
        }).brokenBy("boolean mayFollow(", "sign == '!' && isSize(before)", "sign == '!'")
                .brokenBy("int wrongAt(", "return i;", "return i + 1;")
                .brokenBy("int wrongAt(", "return length;",
                        "return length == MOST_SIGNS && before == ';' ? 59 : length;")
                .brokenBy("boolean mayFollow(", "return isSize(sign) || sign == ';'",
                        "return isSize(sign) || isCourse(sign) || sign == ';'");
    }

    private static int laid(String text) {
        PebbleCourses x = fresh();
        type(x, text);
        return x.layAll();
    }

    private static int errorOf(String text) {
        PebbleCourses x = fresh();
        type(x, text);
        return x.firstError();
    }

    private static void noText(Checks c, String text) {
        c.argument("layAll() of " + text, () -> laid(text));
    }

    private static void undo(Edges edges) {
        Edge saving = edges.edge("Each method that is marked \"undoable\" and does not throw an exception "
                + "saves the state from before it (also if it changes nothing):", c -> {
            saves(c, 1, fresh(), x -> x.stock(1, 9));
            saves(c, 1, fresh(), x -> x.lay(0, 1));
            saves(c, 1, fresh(), x -> x.cut(0, 1));
            saves(c, 1, fresh(), x -> x.takeUp(0, 1));
            saves(c, 1, with("f66"), x -> x.fill(5));
            PebbleCourses filled = fresh();
            filled.fillAll();
            saves(c, 1, filled, PebbleCourses::fillAll);
            saves(c, 1, fresh(), x -> x.set(1, 0));
            PebbleCourses refusing = with("f66");
            type(refusing, "f1");
            saves(c, 1, refusing, PebbleCourses::layAll);
            saves(c, -1, with("f66"), PebbleCourses::undo);
            PebbleCourses x = with("f66");
            saves(c, 0, x, y -> y.append(97));
            saves(c, 0, x, PebbleCourses::firstError);
            saves(c, 0, x, PebbleCourses::clearBuffer);
            saves(c, 0, x, y -> y.course(0, 0) + y.cell(0, 0, 0) + y.refusal(0, 1, true) + y.stockOf(1));
            saves(c, 0, x, y -> y.count(0) + y.setting(0) + y.fewest(0) + y.nextSize(0) + y.ifFilled(0, 0, 0));
            saves(c, 0, x, y -> y.bestRule() + (long) y.share() + y.digest());
        });
        for (String method : new String[] {"stock", "lay", "cut", "takeUp", "fill", "fillAll", "set", "layAll"}) {
            saving.brokenBy("public int " + method + "(", "history.save(mosaic);", "");
        }
        saving.brokenBy("public int append(", "return", "history.save(mosaic); return");
        saving.brokenBy("public int bestRule(", "return", "history.save(mosaic); return");
        Edge restoring = edges.edge("all, also what is counted so far, but the buffer and the saved states.", c -> {
            PebbleCourses x = fresh();
            x.set(1, 2);
            x.set(2, 1);
            x.cut(0, 1);
            x.lay(1, 5);
            type(x, "a1x");
            long before = x.digest();
            bringsBack(c, x, y -> y.stock(4, 77));
            bringsBack(c, x, y -> y.lay(0, 6));
            bringsBack(c, x, y -> y.cut(1, 2));
            bringsBack(c, x, y -> y.takeUp(0, 1));
            bringsBack(c, x, y -> y.fill(2));
            bringsBack(c, x, PebbleCourses::fillAll);
            bringsBack(c, x, y -> y.set(1, 0));
            bringsBack(c, x, y -> y.set(2, 0));
            bringsBack(c, fresh(), y -> y.set(0, 60));
            x.fillAll();
            x.takeUp(3, 2);
            x.undo();
            x.append(97);
            c.due(3 + 1, x.clearBuffer());
            c.due(4, x.undo());
            type(x, "a1x");
            c.due(before, x.digest());
            x.clearBuffer();
            type(x, "b1");
            x.layAll();
            x.undo();
            c.due(0, x.clearBuffer());
            c.due(3, x.undo());
            c.due(0, x.course(1, 1));
            c.due(2, x.undo());
            c.due(0, x.count(0) + x.count(5));
        });
        for (String held : new String[] {"cells", "taken", "begins", "stock"}) {
            restoring.brokenBy("void become(", "copy(other." + held + ", " + held + ");", "");
        }
        for (String held : new String[] {"rule", "cutting", "waste"}) {
            restoring.brokenBy("void become(", held + " = other." + held + ";", "");
        }
        restoring.brokenBy("public int undo(", "history.restore(mosaic);", "history.restore(mosaic); text.drop();");
        restoring.brokenBy("void restore(", "many--;", "many = 0;");
        edges.edge("At most 6 states are saved;", c -> {
            PebbleCourses x = fresh();
            for (int n = 1; n <= 9; n++) {
                x.lay(0, 1);
                c.due(Math.min(n, 6), x.count(7));
            }
            for (int left = 5; left >= 0; left--) {
                c.due(left, x.undo());
            }
            c.state(x::undo);
            c.due(3, x.count(0));
        }).brokenBy("", "MOST_SAVED = 6", "MOST_SAVED = 5")
                .brokenBy("", "MOST_SAVED = 6", "MOST_SAVED = 7");
        edges.edge("the oldest one is dropped first.", c -> {
            PebbleCourses x = fresh();
            for (int n = 0; n < 8; n++) {
                x.lay(0, 1);
            }
            x.undo();
            x.undo();
            c.due(6, x.count(0));
            x.lay(1, 1);
            x.lay(1, 1);
            x.lay(1, 1); // with this one 7 were saved
            c.due(6, x.count(7));
            int[] due = {8, 7, 6, 5, 4, 3};
            for (int pebbles : due) {
                x.undo();
                c.due(pebbles, x.count(0));
            }
            c.state(x::undo);
        }).brokenBy("void save(", "if (place == null)", "if (place == null || many == MOST_SAVED)")
                .brokenBy("void save(", "Math.min(many + 1, MOST_SAVED)", "(many + 1) % (MOST_SAVED + 1)")
                .brokenBy("void restore(", "next = latest;", "");
    }

    private static void saves(Checks c, int many, PebbleCourses x, CallOn call) {
        int before = x.count(7);
        call.run(x);
        c.due(before + many, x.count(7));
    }

    private static void bringsBack(Checks c, PebbleCourses x, CallOn call) {
        long before = x.digest();
        call.run(x);
        c.holds(x.digest() != before);
        x.undo();
        c.due(before, x.digest());
    }

    private static void exceptions(Edges edges) {
        Edge nothing = edges.edge("A call that throws an exception changes nothing.", c -> {
            PebbleCourses x = busy();
            PebbleCourses twin = busy();
            throwing(c, x, y -> y.stock(0, 1), y -> y.stock(1, 100), y -> y.lay(6, 1), y -> y.lay(0, 7),
                    y -> y.lay(5, 1), y -> y.lay(2, 6), y -> y.cut(-1, 1), y -> y.cut(0, 0), y -> y.cut(0, 6));
            throwing(c, x, y -> y.takeUp(6, 1), y -> y.takeUp(0, 61), y -> y.fill(6), y -> y.set(3, 0),
                    y -> y.set(1, 3), y -> y.set(0, 40), y -> y.append(127), y -> y.append(97), y -> y.layAll());
            throwing(c, x, y -> y.course(6, 0), y -> y.course(0, 7), y -> y.cell(0, 32, 0), y -> y.cell(0, 0, 4),
                    y -> y.refusal(6, 1, true), y -> y.refusal(0, 7, false), y -> y.stockOf(7), y -> y.count(8));
            throwing(c, x, y -> y.setting(3), y -> y.fewest(6), y -> y.nextSize(6), y -> y.ifFilled(6, 0, 0),
                    y -> y.ifFilled(0, 3, 0), y -> y.ifFilled(0, 0, 3));
            throwing(c, fresh(), y -> y.undo());
            for (int left = 5; left >= 0; left--) {
                c.due(left, x.undo());
                twin.undo();
                c.due(twin.digest(), x.digest());
            }
        });
        nothing.brokenBy("public int stock(", "needArgument(", "history.save(mosaic); needArgument(");
        nothing.brokenBy("public int lay(", "needState(", "history.save(mosaic); needState(");
        nothing.brokenBy("public int cut(", "needState(", "history.save(mosaic); needState(");
        nothing.brokenBy("public int takeUp(", "needArgument(", "history.save(mosaic); needArgument(");
        nothing.brokenBy("public int fill(", "needCourse(", "history.save(mosaic); needCourse(");
        nothing.brokenBy("public int set(", "needState(", "history.save(mosaic); needState(");
        nothing.brokenBy("public int append(", "needState(", "needState(text.drop() < 0 ||");
        nothing.brokenBy("public int layAll(", "needArgument(", "needArgument(text.drop() < 0 ||");
        nothing.brokenBy("public int layAll(", "needArgument(", "history.save(mosaic); needArgument(");
        Edge first = edges.edge("If several exceptions apply, "
                + "the one that is named first in the throws clause is thrown.", c -> {
            PebbleCourses x = busy();
            c.index(() -> x.lay(6, 7));
            c.argument(() -> x.lay(5, 7)); // it is closed, too
            c.index(() -> x.cut(6, 7));
            c.argument(() -> x.cut(5, 0));
            c.index(() -> x.takeUp(6, 0));
            c.index(() -> x.set(3, -1));
            c.argument(() -> x.set(0, 61)); // a pebble lies, too
            c.argument(() -> x.append(32)); // the buffer is full, too
            c.index(() -> x.course(6, 7));
            c.index(() -> x.cell(6, 0, 4));
            c.index(() -> x.cell(0, 32, 4));
            c.index(() -> x.refusal(6, 7, true));
            c.index(() -> x.ifFilled(6, 3, 3));
        });
        String refused = "needState(mosaic.reasonAgainst(course, Math.min(size, 6), true) != 1); ";
        first.brokenBy("public int lay(", "needCourse(", "needSize(size); needCourse(");
        first.brokenBy("public int lay(", "needSize(", refused + "needSize(");
        first.brokenBy("public int cut(", "needCourse(", "needSize(size); needCourse(");
        first.brokenBy("public int cut(", "needSize(", refused + "needSize(");
        first.brokenBy("public int takeUp(", "needCourse(", "needArgument(many > 0); needCourse(");
        first.brokenBy("public int set(", "needSetting(", "needArgument(value >= 0); needSetting(");
        first.brokenBy("public int set(", "needArgument(", "needState(mosaic.summed(PEBBLES) == 0); needArgument(");
        first.brokenBy("public int append(", "needArgument(", "needState(text.length() < MOST_SIGNS); needArgument(");
        first.brokenBy("public int course(", "needCourse(", "needArgument(what < PROPERTIES); needCourse(");
        first.brokenBy("public int cell(", "needCourse(", "needArgument(what < CELL_ANSWERS); needCourse(");
        first.brokenBy("public int cell(", "needIndex(", "needArgument(what < CELL_ANSWERS); needIndex(");
        first.brokenBy("public int refusal(", "needCourse(", "needSize(size); needCourse(");
        first.brokenBy("public int ifFilled(", "needCourse(", "needArgument(rule < RULES); needCourse(");
        edges.edge("The constants: `NONE = -1`: There is nothing to return.", c -> {
            c.due(-1, fresh().cell(0, 0, 0));
            c.due(-1, fresh().cell(0, 0, 2));
            c.due(-1, barredAtAll().fewest(2));
            c.due(-1, with("f66").nextSize(5));
        }).brokenBy("", "NONE = -1", "NONE = -2");
    }

    /** Six states are saved, the buffer is full and not right, the course 5 is closed, the course 2 is barred at 6. */
    private static PebbleCourses busy() {
        PebbleCourses x = with("a62;b61;f66");
        x.stock(3, 2);
        x.set(2, 1);
        x.cut(0, 3);
        x.takeUp(0, 1);
        x.fill(4);
        type(x, "a1x" + "1".repeat(57));
        return x;
    }

    private static void throwing(Checks c, PebbleCourses x, CallOn... calls) {
        long before = x.digest();
        for (CallOn call : calls) {
            c.holds(Checks.answer(() -> call.run(x)).endsWith("Exception"));
            c.due(before, x.digest());
        }
    }
}
