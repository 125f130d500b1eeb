/** Each promise of the document by answers worked out by hand: ordinary inputs, edges, wrong inputs. */
final class PromisesTest extends Mosaics {
    private static final Checks CHECKS = new Checks();

    public static void main(String[] args) {
        newObject();
        stock();
        lay();
        cut();
        takeUp();
        fill();
        fillAll();
        set();
        append();
        clearBuffer();
        firstError();
        layAll();
        undo();
        course();
        cell();
        refusal();
        stockOf();
        count();
        setting();
        fewest();
        nextSize();
        ifFilled();
        bestRule();
        share();
        digest();
        CHECKS.end();
    }

    private static void newObject() {
        CHECKS.at("promise 1");
        PebbleCourses x = fresh();
        int[] counts = {0, 0, 0, 0, 0, 0, 189, 0};
        for (int what = 0; what < 8; what++) {
            CHECKS.due("count(" + what + ")", counts[what], x.count(what));
        }
        for (int c = 0; c < 6; c++) {
            int[] properties = {32 - 4 * c, 0, 32 - 4 * c, 0, 0, 0, 0};
            for (int what = 0; what < 7; what++) {
                CHECKS.due("course(" + c + ", " + what + ")", properties[what], x.course(c, what));
            }
            CHECKS.dueText("joints of " + c, "[]", joints(x, c));
        }
        for (int size = 1; size <= 6; size++) {
            CHECKS.due("stockOf(" + size + ")", 9, x.stockOf(size));
        }
        CHECKS.due("setting(0)", 32, x.setting(0));
        CHECKS.due("setting(1)", 0, x.setting(1));
        CHECKS.due("setting(2)", 0, x.setting(2));
        CHECKS.due("firstError()", 0, x.firstError());
        CHECKS.due("clearBuffer()", 0, x.clearBuffer());
        CHECKS.due("NONE", -1, NONE);
        x.lay(0, 6);
        CHECKS.due("count(0) of another object", 0, fresh().count(0));
    }

    private static void stock() {
        CHECKS.at("promise 2");
        PebbleCourses x = fresh();
        CHECKS.due("stock(1, 0)", 9, x.stock(1, 0));
        CHECKS.due("stock(1, 99)", 0, x.stock(1, 99));
        CHECKS.due("stock(1, 99) again", 99, x.stock(1, 99));
        CHECKS.due("stock(6, 5)", 9, x.stock(6, 5));
        CHECKS.due("stockOf(1)", 99, x.stockOf(1));
        CHECKS.due("stockOf(6)", 5, x.stockOf(6));
        CHECKS.due("stockOf(5)", 9, x.stockOf(5));
        CHECKS.due("saved, also without a change", 4, x.count(7));
        CHECKS.due("waste", 0, x.count(5));
        CHECKS.due("undo()", 3, x.undo());
        CHECKS.due("stockOf(6) after undo", 9, x.stockOf(6));
        for (int size : new int[] {0, 7, -1, LEAST, MOST}) {
            CHECKS.argument("stock(" + size + ", 1)", () -> x.stock(size, 1));
        }
        for (int many : new int[] {-1, 100, LEAST, MOST}) {
            CHECKS.argument("stock(1, " + many + ")", () -> x.stock(1, many));
        }
        CHECKS.due("nothing is saved by exceptions", 3, x.count(7));
    }

    private static void lay() {
        CHECKS.at("promise 3");
        PebbleCourses x = fresh();
        CHECKS.due("lay(0, 6)", 0, x.lay(0, 6));
        CHECKS.due("lay(0, 1)", 6, x.lay(0, 1));
        CHECKS.due("lay(0, 3)", 7, x.lay(0, 3));
        CHECKS.due("lay(5, 6)", 0, x.lay(5, 6));
        CHECKS.due("lay(5, 6) closes", 6, x.lay(5, 6));
        CHECKS.dueText("sizes of 0", "6666661333......................", sizes(x, 0));
        CHECKS.due("stockOf(6)", 6, x.stockOf(6));
        CHECKS.due("stockOf(3)", 8, x.stockOf(3));
        CHECKS.due("course(5, 3)", 1, x.course(5, 3));
        CHECKS.due("no fillers", 0, x.count(4));
        CHECKS.due("saved", 5, x.count(7));
        for (int c : new int[] {-1, 6, LEAST, MOST}) {
            CHECKS.index("lay(" + c + ", 1)", () -> x.lay(c, 1));
            CHECKS.index("lay(" + c + ", 7)", () -> x.lay(c, 7));
        }
        for (int size : new int[] {0, 7, LEAST, MOST}) {
            CHECKS.argument("lay(0, " + size + ")", () -> x.lay(0, size));
            CHECKS.argument("lay(5, " + size + "), where it is closed", () -> x.lay(5, size));
        }
        CHECKS.state("lay(5, 1), where it is closed", () -> x.lay(5, 1));
        x.stock(2, 0);
        CHECKS.state("lay(0, 2) without stock", () -> x.lay(0, 2));
        CHECKS.due("saved by what did not throw", 6, x.count(7));
        PebbleCourses tooLong = with("f641");
        CHECKS.state("lay(5, 2) with one cell free", () -> tooLong.lay(5, 2));
        CHECKS.due("lay(5, 1) with one cell free", 11, tooLong.lay(5, 1));
        PebbleCourses barred = barredAtSix();
        long before = barred.digest();
        CHECKS.state("lay(2, 6), through three", () -> barred.lay(2, 6));
        CHECKS.due("nothing is changed by it", before, barred.digest());
        CHECKS.due("lay(2, 5)", 0, barred.lay(2, 5));
        barred.undo();
        CHECKS.due("undone", before, barred.digest());
    }

    private static void cut() {
        CHECKS.at("promise 4");
        PebbleCourses x = fresh();
        CHECKS.due("cut(0, 2)", 1, x.cut(0, 2));
        CHECKS.due("stockOf(3)", 8, x.stockOf(3));
        CHECKS.due("stockOf(2)", 9, x.stockOf(2));
        CHECKS.due("count(5)", 1, x.count(5));
        CHECKS.due("count(4)", 1, x.count(4));
        CHECKS.dueText("sizes", "22..............................", sizes(x, 0));
        x.stock(2, 0);
        x.stock(3, 0);
        x.stock(4, 0);
        CHECKS.due("cut(0, 2) from 5", 3, x.cut(0, 2));
        CHECKS.due("cut(1, 1) from 5", 4, x.cut(1, 1));
        CHECKS.due("stockOf(5)", 7, x.stockOf(5));
        CHECKS.due("count(5) then", 8, x.count(5));
        CHECKS.due("saved", 6, x.count(7));
        CHECKS.state("cut(0, 6)", () -> x.cut(0, 6));
        for (int c : new int[] {-1, 6, LEAST, MOST}) {
            CHECKS.index("cut(" + c + ", 0)", () -> x.cut(c, 0));
        }
        for (int size : new int[] {0, 7, LEAST, MOST}) {
            CHECKS.argument("cut(0, " + size + ")", () -> x.cut(0, size));
        }
        x.stock(5, 0);
        CHECKS.due("cut(0, 5) from the 6", 1, x.cut(0, 5));
        x.stock(6, 1);
        CHECKS.due("cut(0, 4) from the last 6", 2, x.cut(0, 4));
        CHECKS.due("stockOf(6)", 0, x.stockOf(6));
        CHECKS.state("cut(0, 1) without greater ones", () -> x.cut(0, 1));
        PebbleCourses closed = with("f66");
        CHECKS.state("cut(5, 1), where it is closed", () -> closed.cut(5, 1));
        CHECKS.argument("cut(5, 7), where it is closed", () -> closed.cut(5, 7));
        PebbleCourses barred = with("a4;b4");
        long before = barred.digest();
        CHECKS.state("cut(2, 4), through three", () -> barred.cut(2, 4));
        CHECKS.due("nothing is changed by it", before, barred.digest());
        CHECKS.due("cut(2, 3)", 1, barred.cut(2, 3));
        barred.undo();
        CHECKS.due("undone", before, barred.digest());
    }

    private static void takeUp() {
        CHECKS.at("promise 5");
        PebbleCourses x = with("a1234");
        CHECKS.due("takeUp(0, 2)", 2, x.takeUp(0, 2));
        CHECKS.dueText("sizes", "122.............................", sizes(x, 0));
        CHECKS.due("stockOf(4)", 9, x.stockOf(4));
        CHECKS.due("stockOf(3)", 9, x.stockOf(3));
        CHECKS.due("stockOf(2)", 8, x.stockOf(2));
        CHECKS.due("takeUp(0, 60)", 2, x.takeUp(0, 60));
        CHECKS.due("takeUp(0, 1) of none", 0, x.takeUp(0, 1));
        CHECKS.due("saved, also without a change", 4, x.count(7));
        CHECKS.dueText("joints", "[]", joints(x, 0));
        CHECKS.due("count(6)", 189, x.count(6));
        CHECKS.due("lay(0, 5) at the beginning again", 0, x.lay(0, 5));
        for (int c : new int[] {-1, 6, LEAST, MOST}) {
            CHECKS.index("takeUp(" + c + ", 0)", () -> x.takeUp(c, 0));
        }
        for (int many : new int[] {0, 61, -1, LEAST, MOST}) {
            CHECKS.argument("takeUp(0, " + many + ")", () -> x.takeUp(0, many));
        }
        PebbleCourses full = with("b55;c5");
        full.stock(5, 98);
        CHECKS.due("takeUp(1, 2)", 2, full.takeUp(1, 2));
        CHECKS.due("stockOf(5)", 99, full.stockOf(5));
        CHECKS.due("the second one is waste", 5, full.count(5));
        CHECKS.due("takeUp(2, 1)", 1, full.takeUp(2, 1));
        CHECKS.due("the third one, too", 10, full.count(5));
        full.undo();
        CHECKS.due("waste after undo", 5, full.count(5));
        PebbleCourses filler = with("a2!");
        CHECKS.due("takeUp(0, 1) of a filler", 1, filler.takeUp(0, 1));
        CHECKS.due("it comes back by its own size", 10, filler.stockOf(2));
        CHECKS.due("the greater one does not", 8, filler.stockOf(3));
        CHECKS.due("what was cut off stays waste", 1, filler.count(5));
        CHECKS.due("no filler lies", 0, filler.count(4));
        PebbleCourses closed = with("f66");
        closed.takeUp(5, 1);
        CHECKS.due("open again", 0, closed.course(5, 3));
        CHECKS.dueText("joints of the course taken up again", "[0, 6]", joints(closed, 5));
    }

    private static void fill() {
        CHECKS.at("promise 6");
        PebbleCourses x = fresh();
        CHECKS.due("fill(0) by the greatest", 6, x.fill(0));
        CHECKS.dueText("sizes", "66666666666666666666666666666622", sizes(x, 0));
        CHECKS.due("fill(0) again", 0, x.fill(0));
        CHECKS.due("saved", 2, x.count(7));
        x.undo();
        x.undo();
        CHECKS.due("undone", 0, x.count(0));
        x.set(1, 1);
        CHECKS.due("fill(0) by the least", 19, x.fill(0));
        CHECKS.dueText("sizes", "111111111222222222222222222333..", sizes(x, 0));
        x.undo();
        x.set(2, 1);
        CHECKS.due("fill(0) by the least, with fillers", 20, x.fill(0));
        CHECKS.due("the filler is the greatest that fits", 2, x.cell(0, 31, 0));
        CHECKS.due("fillers", 1, x.course(0, 6));
        CHECKS.due("waste", 1, x.count(5));
        PebbleCourses most = fresh();
        most.set(1, 2);
        CHECKS.due("fill(0) by the stock", 8, most.fill(0));
        CHECKS.dueText("sizes", "66666655555444433322166666655555", sizes(most, 0));
        PebbleCourses again = barredAtSix();
        onlyStockOf(again, 6, 9);
        CHECKS.due("fill(2) where 6 is refused", 0, again.fill(2));
        again.set(2, 1);
        CHECKS.due("fill(2) goes on from the beginning", 5, again.fill(2));
        CHECKS.dueText("sizes", "555556666666666666666661", sizes(again, 2));
        CHECKS.due("waste", 6, again.count(5));
        PebbleCourses none = fresh();
        onlyStockOf(none, 1, 3);
        none.set(2, 1);
        CHECKS.due("fill(3) until nothing is left", 3, none.fill(3));
        for (int c : new int[] {-1, 6, LEAST, MOST}) {
            CHECKS.index("fill(" + c + ")", () -> none.fill(c));
        }
    }

    private static void fillAll() {
        CHECKS.at("promise 7");
        PebbleCourses x = fresh();
        CHECKS.due("fillAll()", 6, x.fillAll());
        String[] due = {"66666666666666666666666666666622", "6666666666666666666666664444", "555555555555555555554444",
            "55555555555555555555", "5555544444444333", "444444444444"};
        for (int c = 0; c < 6; c++) {
            CHECKS.dueText("sizes of " + c, due[c], sizes(x, c));
        }
        CHECKS.due("saved once", 1, x.count(7));
        CHECKS.due("fillAll() again", 6, x.fillAll());
        x.undo();
        CHECKS.due("undo()", 0, x.undo());
        CHECKS.due("nothing lies", 0, x.count(0));
        onlyStockOf(x, 6, 13);
        CHECKS.due("fillAll() with 6 alone", 1, x.fillAll());
        CHECKS.due("the one of 24 cells is closed", 1, x.course(2, 3));
        CHECKS.due("what is not closed stays", 2, x.course(0, 2));
        PebbleCourses least = with("f66");
        onlyStockOf(least, 1, 0);
        CHECKS.due("fillAll() without stock counts what is closed", 1, least.fillAll());
        least.set(1, 1);
        least.stock(1, 99);
        CHECKS.due("fillAll() by the least", 5, least.fillAll());
        CHECKS.due("the course 2 is barred by the ones outside", 0, least.course(2, 1));
    }

    private static void set() {
        CHECKS.at("promise 8");
        PebbleCourses x = fresh();
        CHECKS.due("set(0, 24)", 32, x.set(0, 24));
        CHECKS.due("course(5, 0)", 4, x.course(5, 0));
        CHECKS.due("set(0, 60)", 24, x.set(0, 60));
        CHECKS.due("course(5, 0)", 40, x.course(5, 0));
        CHECKS.due("set(1, 2)", 0, x.set(1, 2));
        CHECKS.due("set(2, 1)", 0, x.set(2, 1));
        CHECKS.due("set(2, 1) again", 1, x.set(2, 1));
        CHECKS.due("saved", 5, x.count(7));
        x.undo();
        x.undo();
        CHECKS.due("setting(2) undone", 0, x.setting(2));
        x.undo();
        CHECKS.due("setting(1) undone", 0, x.setting(1));
        x.undo();
        CHECKS.due("setting(0) undone", 24, x.setting(0));
        CHECKS.due("course(3, 0) undone", 12, x.course(3, 0));
        for (int setting : new int[] {-1, 3, LEAST, MOST}) {
            CHECKS.index("set(" + setting + ", -1)", () -> x.set(setting, -1));
        }
        int[][] wrong = {{0, 23}, {0, 61}, {0, -1}, {1, -1}, {1, 3}, {2, -1}, {2, 2}, {0, MOST}, {1, LEAST}, {2, MOST}};
        x.lay(3, 1);
        for (int[] call : wrong) {
            CHECKS.argument("set(" + call[0] + ", " + call[1] + ")", () -> x.set(call[0], call[1]));
        }
        CHECKS.state("set(0, 32) where a pebble lies", () -> x.set(0, 32));
        CHECKS.state("set(0, 24) where a pebble lies", () -> x.set(0, 24));
        CHECKS.due("set(1, 1) where a pebble lies", 0, x.set(1, 1));
        CHECKS.due("set(2, 1) where a pebble lies", 0, x.set(2, 1));
        x.takeUp(3, 1);
        CHECKS.due("set(0, 40) where none lies any more", 24, x.set(0, 40));
    }

    private static void append() {
        CHECKS.at("promise 9");
        PebbleCourses x = fresh();
        CHECKS.due("append(33)", 1, x.append(33));
        CHECKS.due("append(126)", 2, x.append(126));
        for (int code : new int[] {32, 127, 0, -1, 65536 + 97, LEAST, MOST}) {
            CHECKS.argument("append(" + code + ")", () -> x.append(code));
        }
        for (int length = 3; length <= 60; length++) {
            CHECKS.due("append(97)", length, x.append(97));
        }
        CHECKS.state("append(97) to 60", () -> x.append(97));
        CHECKS.argument("append(32) to 60", () -> x.append(32));
        CHECKS.due("nothing is saved", 0, x.count(7));
        CHECKS.due("clearBuffer()", 60, x.clearBuffer());
    }

    private static void clearBuffer() {
        CHECKS.at("promise 10");
        PebbleCourses x = fresh();
        type(x, "a1x");
        CHECKS.due("clearBuffer()", 3, x.clearBuffer());
        CHECKS.due("clearBuffer() again", 0, x.clearBuffer());
        CHECKS.due("firstError()", 0, x.firstError());
        CHECKS.due("append(98)", 1, x.append(98));
        CHECKS.due("nothing is saved", 0, x.count(7));
    }

    private static void firstError() {
        CHECKS.at("promise 11");
        String[] right = {"", "a", "f", "a1", "a6", "a1!", "a1!2", "a1!2!", "a12;", "a1;b", "a1;b2", "a1!;b2",
            "a1;a1;a1", "c123456!6"};
        for (String text : right) {
            dueError(text, text.length());
        }
        dueError("1", 0);
        dueError("g", 0);
        dueError("A1", 0);
        dueError("!", 0);
        dueError(";", 0);
        dueError("`", 0);
        dueError("ab", 1);
        dueError("a;", 1);
        dueError("a!", 1);
        dueError("a0", 1);
        dueError("a7", 1);
        dueError("a1b", 2);
        dueError("a1x1", 2);
        dueError("a1!!", 3);
        dueError("a1!b", 3);
        dueError("a1;;", 3);
        dueError("a1;1", 3);
        dueError("a1;!", 3);
        dueError("a1;g", 3);
        dueError("a1;b;", 4);
        dueError("a1;b7x", 4);
        String longest = "a" + "1".repeat(59);
        dueError(longest, 60);
        dueError("a" + "1".repeat(58) + ";", 60);
        dueError("a" + "1".repeat(58) + "x", 59);
    }

    private static void dueError(String text, int want) {
        PebbleCourses x = fresh();
        type(x, text);
        CHECKS.due("firstError() of " + text, want, x.firstError());
        CHECKS.due("the buffer stays", text.length(), x.clearBuffer());
    }

    private static void layAll() {
        CHECKS.at("promise 12");
        PebbleCourses x = fresh();
        type(x, "a16;b2!3;a5");
        CHECKS.due("layAll()", 5, x.layAll());
        CHECKS.dueText("sizes of 0", "166666655555....................", sizes(x, 0));
        CHECKS.dueText("sizes of 1", "22333.......................", sizes(x, 1));
        CHECKS.due("fillers of 1", 1, x.course(1, 6));
        CHECKS.due("waste", 1, x.count(5));
        CHECKS.due("stockOf(3)", 7, x.stockOf(3));
        CHECKS.due("the buffer is cleared", 0, x.clearBuffer());
        CHECKS.due("saved once", 1, x.count(7));
        type(x, "f6611;a1");
        CHECKS.due("layAll() up to the refused one", 2, x.layAll());
        CHECKS.due("nothing behind it is laid", 3, x.course(0, 1));
        CHECKS.due("the buffer is cleared then, too", 0, x.clearBuffer());
        type(x, "f1");
        CHECKS.due("layAll() of none", 0, x.layAll());
        CHECKS.due("saved also if none is laid", 3, x.count(7));
        x.undo();
        CHECKS.due("undo()", 1, x.undo());
        CHECKS.due("undone as one call", 0, x.course(5, 1));
        type(x, "c6!");
        CHECKS.due("layAll() of a filler that none is greater than", 0, x.layAll());
        for (String text : new String[] {"", "a", "a1;", "a1;b", "1", "a1x", "xa1", "a1!!", "a1 ;b1", "a7"}) {
            PebbleCourses y = fresh();
            String typed = text.replace(" ", "");
            type(y, typed);
            boolean isComplete = typed.equals("a1;b1");
            if (isComplete) {
                CHECKS.due("layAll() of " + typed, 2, y.layAll());
            } else {
                CHECKS.argument("layAll() of " + typed, y::layAll);
                CHECKS.due("the buffer stays", typed.length(), y.clearBuffer());
                CHECKS.due("nothing is saved", 0, y.count(7));
                CHECKS.due("nothing is laid", 0, y.count(0));
            }
        }
    }

    private static void undo() {
        CHECKS.at("promise 13");
        PebbleCourses x = fresh();
        CHECKS.state("undo() of nothing", x::undo);
        for (int k = 0; k < 8; k++) {
            x.lay(0, 1);
        }
        CHECKS.due("at most 6 are saved", 6, x.count(7));
        type(x, "a1");
        for (int left = 5; left >= 0; left--) {
            CHECKS.due("undo()", left, x.undo());
            CHECKS.due("pebbles", 2 + left, x.count(0));
        }
        CHECKS.state("undo() of nothing more", x::undo);
        CHECKS.due("the oldest ones are dropped", 2, x.count(0));
        CHECKS.due("the buffer stays", 2, x.clearBuffer());
        PebbleCourses all = fresh();
        all.set(0, 40);
        all.set(1, 2);
        all.set(2, 1);
        all.cut(0, 1);
        long before = all.digest();
        all.stock(4, 77);
        all.undo();
        CHECKS.due("stock undone", before, all.digest());
        all.fillAll();
        all.undo();
        CHECKS.due("fillAll undone", before, all.digest());
        all.takeUp(0, 1);
        all.undo();
        CHECKS.due("takeUp undone", before, all.digest());
        all.cut(3, 2);
        all.undo();
        CHECKS.due("cut undone, with its waste", before, all.digest());
        all.set(2, 0);
        all.undo();
        CHECKS.due("set undone", before, all.digest());
        all.undo();
        CHECKS.due("waste undone", 0, all.count(5));
        all.lay(2, 2);
        CHECKS.due("saved again behind an undo", 4, all.count(7));
    }

    private static void course() {
        CHECKS.at("promise 14");
        PebbleCourses x = with("a6666;b62!46;f66");
        int[][] due = {{32, 4, 8, 0, 5, 0, 0}, {28, 4, 10, 0, 5, 1, 1}, {24, 0, 24, 0, 0, 0, 0},
            {20, 0, 20, 0, 0, 0, 0}, {16, 0, 16, 0, 0, 0, 0}, {12, 2, 0, 1, 2, 0, 0}};
        for (int c = 0; c < 6; c++) {
            for (int what = 0; what < 7; what++) {
                CHECKS.due("course(" + c + ", " + what + ")", due[c][what], x.course(c, what));
            }
        }
        CHECKS.dueText("joints of 1", "[0, 6, 8, 12, 18]", joints(x, 1));
        CHECKS.due("course(1, 5) of a joint at 1", 1, with("a1;b1").course(1, 5));
        for (int c : new int[] {-1, 6, LEAST, MOST}) {
            CHECKS.index("course(" + c + ", 7)", () -> x.course(c, 7));
        }
        for (int what : new int[] {-1, 7, LEAST, MOST}) {
            CHECKS.argument("course(0, " + what + ")", () -> x.course(0, what));
        }
        CHECKS.due("nothing is saved", 1, x.count(7));
    }

    private static void cell() {
        CHECKS.at("promise 15");
        PebbleCourses x = with("a42;b4;c33!");
        CHECKS.dueText("sizes of 0", "444422..........................", sizes(x, 0));
        CHECKS.dueText("joints of 0", "[0, 4, 6]", joints(x, 0));
        CHECKS.dueText("sizes of 2", "333333..................", sizes(x, 2));
        CHECKS.due("cell(0, 31, 2)", NONE, x.cell(0, 31, 2));
        CHECKS.due("cell(1, 0, 2)", 0, x.cell(1, 0, 2));
        CHECKS.due("cell(1, 27, 2)", 30, x.cell(1, 27, 2));
        CHECKS.due("cell(5, 11, 2)", 14, x.cell(5, 11, 2));
        CHECKS.due("cell(2, 4, 3)", 1, x.cell(2, 4, 3));
        CHECKS.due("cell(2, 4, 1)", 0, x.cell(2, 4, 1));
        CHECKS.due("cell(2, 0, 3), left out", 0, x.cell(2, 0, 3));
        CHECKS.due("cell(2, 3, 3)", 0, x.cell(2, 3, 3));
        CHECKS.due("cell(1, 4, 3)", 0, x.cell(1, 4, 3));
        CHECKS.due("cell(0, 4, 3)", 0, x.cell(0, 4, 3));
        int[][] outside = {{-1, 0}, {6, 0}, {0, -1}, {0, 32}, {1, 28}, {5, 12}, {LEAST, 0}, {0, MOST}, {MOST, LEAST}};
        for (int[] place : outside) {
            CHECKS.index("cell(" + place[0] + ", " + place[1] + ", 4)", () -> x.cell(place[0], place[1], 4));
        }
        for (int what : new int[] {-1, 4, LEAST, MOST}) {
            CHECKS.argument("cell(5, 11, " + what + ")", () -> x.cell(5, 11, what));
        }
        CHECKS.dueText("joints of one pebble of one cell", "[0, 1]", joints(with("b1"), 1));
        PebbleCourses closed = with("f66");
        CHECKS.dueText("joints of a closed course", "[0, 6]", joints(closed, 5));
        CHECKS.due("nothing is saved", 1, x.count(7));
    }

    private static void refusal() {
        CHECKS.at("promise 16");
        PebbleCourses x = barredAtSix();
        CHECKS.due("refusal(2, 6, false)", 4, x.refusal(2, 6, false));
        CHECKS.due("refusal(2, 5, false)", 0, x.refusal(2, 5, false));
        CHECKS.due("refusal(2, 6, true)", 3, x.refusal(2, 6, true));
        CHECKS.due("refusal(2, 5, true)", 0, x.refusal(2, 5, true));
        x.stock(6, 0);
        CHECKS.due("3 before 4", 3, x.refusal(2, 6, false));
        CHECKS.due("a filler of 5 needs a 6", 3, x.refusal(2, 5, true));
        CHECKS.due("a filler of 4 needs a 5", 0, x.refusal(2, 4, true));
        x.lay(2, 5);
        CHECKS.due("4 at another place", 4, x.refusal(2, 1, false));
        CHECKS.due("4 of a filler", 4, x.refusal(2, 1, true));
        x.stock(1, 0);
        CHECKS.due("a filler does not need its own size", 4, x.refusal(2, 1, true));
        PebbleCourses far = with("a6666;b6663;c66");
        far.stock(6, 1);
        CHECKS.due("4 far from the beginning", 4, far.refusal(2, 6, false));
        CHECKS.due("0 there of 5", 0, far.refusal(2, 5, false));
        CHECKS.due("4 in the course 3", 4, with("b61;c6").refusal(3, 5, false));
        CHECKS.due("4 in the course 4", 4, with("c6;d5").refusal(4, 4, false));
        CHECKS.due("4 in the course 5", 4, with("d5;e4").refusal(5, 3, false));
        CHECKS.due("two courses are not three", 0, with("a4").refusal(1, 4, false));
        PebbleCourses y = with("f65");
        CHECKS.due("2", 2, y.refusal(5, 2, false));
        CHECKS.due("2 of a filler", 2, y.refusal(5, 6, true));
        y.stock(2, 0);
        CHECKS.due("2 before 3", 2, y.refusal(5, 2, false));
        CHECKS.due("it would close", 0, y.refusal(5, 1, false));
        y.lay(5, 1);
        CHECKS.due("1", 1, y.refusal(5, 1, false));
        CHECKS.due("1 of a filler", 1, y.refusal(5, 1, true));
        CHECKS.due("1 before 2 and 3", 1, y.refusal(5, 2, false));
        for (int c : new int[] {-1, 6, LEAST, MOST}) {
            CHECKS.index("refusal(" + c + ", 0, true)", () -> x.refusal(c, 0, true));
        }
        for (int size : new int[] {0, 7, LEAST, MOST}) {
            CHECKS.argument("refusal(5, " + size + ", false)", () -> y.refusal(5, size, false));
            CHECKS.argument("refusal(0, " + size + ", true)", () -> y.refusal(0, size, true));
        }
    }

    private static void stockOf() {
        CHECKS.at("promise 17");
        PebbleCourses x = with("a66");
        CHECKS.due("stockOf(6)", 7, x.stockOf(6));
        CHECKS.due("stockOf(1)", 9, x.stockOf(1));
        x.stock(1, 42);
        CHECKS.due("stockOf(1)", 42, x.stockOf(1));
        for (int size : new int[] {0, 7, -1, LEAST, MOST}) {
            CHECKS.argument("stockOf(" + size + ")", () -> x.stockOf(size));
        }
    }

    private static void count() {
        CHECKS.at("promise 18");
        PebbleCourses x = fresh();
        x.lay(2, 4);
        x.lay(1, 4);
        CHECKS.due("count(3) before the outermost one", 0, x.count(3));
        x.lay(0, 4);
        CHECKS.due("count(3)", 1, x.count(3));
        x.cut(5, 5);
        x.lay(5, 6);
        x.cut(5, 1);
        int[] due = {6, 1, 9, 1, 2, 2, 189 - 12 - 6 - 6 - 2, 6};
        for (int what = 0; what < 8; what++) {
            CHECKS.due("count(" + what + ")", due[what], x.count(what));
        }
        x.takeUp(0, 1);
        CHECKS.due("count(3) without the outermost one", 0, x.count(3));
        CHECKS.due("count(3) of a joint at 1", 1, with("c1;b1;a1").count(3));
        CHECKS.due("count(3) of the courses 3 to 5", 2, with("f3;e4;d5;c6").count(3));
        PebbleCourses none = fresh();
        for (int size = 1; size <= 6; size++) {
            none.stock(size, size);
        }
        CHECKS.due("count(6)", 91, none.count(6));
        for (int what : new int[] {-1, 8, LEAST, MOST}) {
            CHECKS.argument("count(" + what + ")", () -> none.count(what));
        }
    }

    private static void setting() {
        CHECKS.at("promise 19");
        PebbleCourses x = fresh();
        x.set(0, 33);
        x.set(1, 2);
        x.set(2, 1);
        CHECKS.due("setting(0)", 33, x.setting(0));
        CHECKS.due("setting(1)", 2, x.setting(1));
        CHECKS.due("setting(2)", 1, x.setting(2));
        for (int setting : new int[] {-1, 3, LEAST, MOST}) {
            CHECKS.index("setting(" + setting + ")", () -> x.setting(setting));
        }
    }

    private static void fewest() {
        CHECKS.at("promise 20");
        PebbleCourses x = fresh();
        int[] due = {6, 5, 4, 4, 3, 2};
        for (int c = 0; c < 6; c++) {
            CHECKS.due("fewest(" + c + ")", due[c], x.fewest(c));
        }
        CHECKS.due("fewest(2) where 6 is barred", 5, barredAtSix().fewest(2));
        onlyStockOf(x, 1, 0);
        CHECKS.due("the stock is left aside", 6, x.fewest(0));
        CHECKS.due("fewest(5) of a closed one", 0, with("f66").fewest(5));
        CHECKS.due("fewest(5) with one cell free", 1, with("f641").fewest(5));
        CHECKS.due("fewest(2) where nothing can be laid", NONE, barredAtAll().fewest(2));
        CHECKS.due("fewest(1) there", 3, barredAtAll().fewest(1));
        PebbleCourses inside = with("c4;b4;a4");
        CHECKS.due("count(3)", 1, inside.count(3));
        CHECKS.due("a joint that is there already bars nothing", 4, inside.fewest(2));
        PebbleCourses longest = fresh();
        longest.set(0, 60);
        CHECKS.due("fewest(0) of 60 cells", 10, longest.fewest(0));
        CHECKS.due("fewest(5) of 40 cells", 7, longest.fewest(5));
        long before = x.digest();
        x.fewest(0);
        CHECKS.due("nothing is changed", before, x.digest());
        for (int c : new int[] {-1, 6, LEAST, MOST}) {
            CHECKS.index("fewest(" + c + ")", () -> x.fewest(c));
        }
    }

    private static void nextSize() {
        CHECKS.at("promise 21");
        PebbleCourses x = fresh();
        for (int c = 0; c < 6; c++) {
            CHECKS.due("nextSize(" + c + ")", 6, x.nextSize(c));
        }
        CHECKS.due("nextSize(2) where 6 is barred", 5, barredAtSix().nextSize(2));
        CHECKS.due("nextSize(5) of a closed one", NONE, with("f66").nextSize(5));
        CHECKS.due("nextSize(5) with one cell free", 1, with("f641").nextSize(5));
        CHECKS.due("nextSize(5) with 4 cells free", 4, with("f62").nextSize(5));
        CHECKS.due("nextSize(2) where nothing can be laid", NONE, barredAtAll().nextSize(2));
        CHECKS.due("nextSize(2) behind a joint that is there already", 6, with("c4;b4;a4").nextSize(2));
        for (int c : new int[] {-1, 6, LEAST, MOST}) {
            CHECKS.index("nextSize(" + c + ")", () -> x.nextSize(c));
        }
    }

    private static void ifFilled() {
        CHECKS.at("promise 22");
        PebbleCourses x = fresh();
        int[][] due = {{0, 6, 0}, {2, 19, 0}, {0, 8, 0}};
        for (int rule = 0; rule < 3; rule++) {
            for (int what = 0; what < 3; what++) {
                CHECKS.due("ifFilled(0, " + rule + ", " + what + ")", due[rule][what], x.ifFilled(0, rule, what));
            }
        }
        x.set(2, 1);
        CHECKS.due("free cells with fillers", 0, x.ifFilled(0, 1, 0));
        CHECKS.due("pebbles with fillers", 20, x.ifFilled(0, 1, 1));
        x.set(2, 0);
        x.fill(0);
        x.set(1, 2);
        CHECKS.due("joints that would meet one", 1, x.ifFilled(1, 0, 2));
        CHECKS.due("pebbles of a closed course", 0, x.ifFilled(0, 0, 1));
        long before = x.digest();
        x.ifFilled(3, 1, 1);
        CHECKS.due("nothing is changed", before, x.digest());
        for (int c : new int[] {-1, 6, LEAST, MOST}) {
            CHECKS.index("ifFilled(" + c + ", 3, 3)", () -> x.ifFilled(c, 3, 3));
        }
        for (int wrong : new int[] {-1, 3, LEAST, MOST}) {
            CHECKS.argument("ifFilled(0, " + wrong + ", 0)", () -> x.ifFilled(0, wrong, 0));
            CHECKS.argument("ifFilled(0, 0, " + wrong + ")", () -> x.ifFilled(0, 0, wrong));
        }
    }

    private static void bestRule() {
        CHECKS.at("promise 23");
        CHECKS.due("bestRule() of a new object", 0, fresh().bestRule());
        PebbleCourses none = fresh();
        onlyStockOf(none, 1, 0);
        CHECKS.due("bestRule() of equal ones", 0, none.bestRule());
        PebbleCourses least = fresh();
        least.set(0, 25);
        onlyStockOf(least, 6, 4);
        least.stock(5, 5);
        CHECKS.due("bestRule() of 1 and 2, equal in all", 1, least.bestRule());
        int[] found = new int[3];
        for (int seed = 0; seed < 300; seed++) {
            java.util.Random random = new java.util.Random(seed);
            PebbleCourses x = fresh();
            x.set(0, 24 + random.nextInt(37));
            x.set(2, random.nextInt(2));
            for (int size = 1; size <= 6; size++) {
                x.stock(size, random.nextBoolean() ? 0 : random.nextInt(20));
            }
            long before = x.digest();
            int best = x.bestRule();
            CHECKS.due("nothing is changed", before, x.digest());
            CHECKS.due("bestRule() of seed " + seed, bestByFilling(x), best);
            found[best]++;
        }
        CHECKS.holds("each rule is the best once", found[0] > 0 && found[1] > 0 && found[2] > 0);
    }

    private static int bestByFilling(PebbleCourses x) {
        int best = NONE;
        long bestRank = 0;
        for (int rule = 0; rule < 3; rule++) {
            x.set(1, rule);
            long closed = x.fillAll();
            long rank = closed * 1_000_000_000L - x.count(5) * 10_000L - x.count(0);
            if (best == NONE || rank > bestRank) {
                best = rule;
                bestRank = rank;
            }
            x.undo();
            x.undo();
        }
        return best;
    }

    private static void share() {
        CHECKS.at("promise 24");
        PebbleCourses x = fresh();
        CHECKS.holds("share() is 0", x.share() == 0.0);
        x.lay(0, 6);
        x.lay(4, 5);
        CHECKS.holds("share() is 11 / 132", x.share() == 11.0 / 132.0);
        x.fillAll();
        CHECKS.holds("share() is 1", x.share() == 1.0);
        PebbleCourses most = fresh();
        most.set(0, 60);
        most.lay(3, 1);
        CHECKS.holds("share() is 1 / 300", most.share() == 1.0 / 300.0);
    }

    private static void digest() {
        CHECKS.at("promise 25");
        PebbleCourses x = fresh();
        CHECKS.due("digest()", digestOf(x, ""), x.digest());
        type(x, "x;1");
        CHECKS.due("digest() with a buffer", digestOf(x, "x;1"), x.digest());
        x.set(1, 2);
        x.set(2, 1);
        x.lay(2, 4);
        x.lay(1, 4);
        x.cut(0, 4);
        CHECKS.due("digest() with pebbles", digestOf(x, "x;1"), x.digest());
        x.fillAll();
        CHECKS.due("digest() with all closed", digestOf(x, "x;1"), x.digest());
        PebbleCourses y = fresh();
        y.set(0, 60);
        for (int k = 0; k < 60; k++) {
            if (y.refusal(k % 6, 1 + k % 5, k % 7 == 0) == 0) {
                int laid = k % 7 == 0 ? y.cut(k % 6, 1 + k % 5) : y.lay(k % 6, 1 + k % 5);
            }
            y.stock(1 + k % 5, 9);
            CHECKS.due("digest() on the way", digestOf(y, ""), y.digest());
        }
    }
}
