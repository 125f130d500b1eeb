/** The sentences of the promises 9 to 13: the calls ahead of which stands "texts". */
final class TextEdges extends Mosaics {
    private static final String FULL = "a" + "1".repeat(59);

    private TextEdges() {
    }

    static void add(Edges edges) {
        edges.in("Promise 9");
        append(edges);
        edges.in("Promise 10");
        clearBuffer(edges);
        edges.in("Promise 11");
        firstError(edges);
        edges.in("Promise 12");
        layAll(edges);
        edges.in("Promise 13");
        undo(edges);
    }

    private static PebbleCourses typed(String text) {
        PebbleCourses x = fresh();
        type(x, text);
        return x;
    }

    private static void append(Edges edges) {
        edges.edge("Appends a character to the buffer.", c -> {
            PebbleCourses x = fresh();
            String text = "!~a1";
            for (int n = 0; n < text.length(); n++) {
                x.append(text.charAt(n));
                c.due(digestOf(x, text.substring(0, n + 1)), x.digest());
            }
            x.clearBuffer();
            type(x, "b3");
            c.due(1, x.layAll());
            c.due(3, x.cell(1, 0, 0));
        }).brokenBy("int add(", "signs[length] = sign;", "signs[length] = (char) (sign & 95);")
                .brokenBy("int add(", "signs[length] = sign;", "signs[0] = sign;");
        edges.edge("`code`: the character code, 33 to 126", c -> c.takes(33, 126, code -> fresh().append(code)))
                .brokenBy("public int append(", "code >= LEAST_CODE", "code > LEAST_CODE")
                .brokenBy("public int append(", "code <= GREATEST_CODE", "code < GREATEST_CODE");
        edges.edge("Returns the new length of the buffer.", c -> {
            PebbleCourses x = fresh();
            for (int length = 1; length <= 60; length++) {
                c.due(length, x.append(97));
            }
            x.clearBuffer();
            c.due(1, x.append(97));
        }).brokenBy("int add(", "return length;", "return length - 1;")
                .brokenBy("int add(", "return length;", "return Math.min(length, 59);");
        edges.edge("Throws `IllegalArgumentException` if code is not 33 to 126", c -> {
            c.argumentOutside(33, 126, code -> fresh().append(code));
            c.argumentOutside(33, 126, code -> typed(FULL).append(code));
            c.argument(() -> fresh().append(0));
            c.argument(() -> fresh().append(65_536 + 'a')); // which is an 'a' as a char
        }).brokenBy("public int append(", "code >= LEAST_CODE", "code >= LEAST_CODE - 1")
                .brokenBy("public int append(", "code <= GREATEST_CODE", "code <= GREATEST_CODE + 1")
                .brokenBy("public int append(", "code <= GREATEST_CODE", "(char) code <= GREATEST_CODE");
        edges.edge("Throws `IllegalStateException` if the buffer has 60 characters", c -> {
            PebbleCourses x = typed(FULL);
            c.state(() -> x.append('1'));
            c.due(60, x.clearBuffer());
            c.due(1, x.append('a'));
            c.due(60, typed("a" + "1".repeat(58)).append('1'));
            PebbleCourses laid = typed(FULL);
            laid.layAll();
            c.due(1, laid.append('a'));
        }).brokenBy("public int append(", "text.length() < MOST_SIGNS", "text.length() < MOST_SIGNS - 1")
                .brokenBy("public int append(", "text.length() < MOST_SIGNS", "text.length() <= MOST_SIGNS");
    }

    private static void clearBuffer(Edges edges) {
        edges.edge("Clears the buffer.", c -> {
            PebbleCourses x = typed("xyz");
            x.clearBuffer();
            c.due(0, x.firstError());
            c.due(0, x.clearBuffer());
            c.argument(x::layAll);
            type(x, "a1");
            c.due(2, x.firstError());
            c.due(1, x.layAll());
            c.due(1, x.count(7)); // of layAll alone
        }).brokenBy("int drop(", "length = 0;", "")
                .brokenBy("int drop(", "length = 0;", "length = Math.min(length, 1);")
                .brokenBy("public int clearBuffer(", "return", "history.save(mosaic); return");
        edges.edge("Returns the length that it had.", c -> {
            c.due(0, fresh().clearBuffer());
            c.due(1, typed("~").clearBuffer());
            c.due(60, typed(FULL).clearBuffer());
            PebbleCourses x = typed(FULL);
            x.clearBuffer();
            c.due(0, x.clearBuffer());
        }).brokenBy("int drop(", "return previous;", "return length;")
                .brokenBy("int drop(", "return previous;", "return Math.min(previous, 59);");
    }

    private static void firstError(Edges edges) {
        edges.edge("Finds the first syntax error of the buffer.", c -> {
            PebbleCourses x = typed("a1xyx");
            long before = x.digest();
            c.due(2, x.firstError());
            c.due(2, x.firstError());
            c.due(before, x.digest()); // it changes nothing
            x.append('1');
            c.due(2, x.firstError()); // not the last one
        }).brokenBy("int wrongAt(", "return i;", "return length - 1;")
                .brokenBy("public int firstError(", "return text.wrongAt();",
                        "int at = text.wrongAt(); text.drop(); return at;");
        edges.edge("Returns the index of the first character that is a syntax error;", c -> {
            String[] wrong = {"x", "1", ";", "!", "g1", "A1"};
            for (String text : wrong) {
                c.due(0, typed(text).firstError());
                c.due(3, typed("a1;" + text).firstError());
            }
            for (String text : new String[] {"ab", "a;", "a!", "a0", "a7", "a~"}) {
                c.due(1, typed(text).firstError());
                c.due(4, typed("f6;" + text).firstError());
            }
            c.due(2, typed("a1b").firstError());
            c.due(3, typed("a1!!").firstError());
            c.due(3, typed("a1!b").firstError());
            c.due(59, typed("a" + "1".repeat(58) + "x").firstError());
        }).brokenBy("int wrongAt(", "return i;", "return Math.max(i, 1);")
                .brokenBy("int wrongAt(", "return i;", "return Math.min(i, 58);")
                .brokenBy("boolean mayFollow(", "return isSize(sign);", "return isSize(sign) || sign == '!';")
                .brokenBy("boolean mayFollow(", "return isSize(sign);", "return isSize(sign) || sign == ';';")
                .brokenBy("boolean mayFollow(", "return isSize(sign);", "return isSize(sign) || isCourse(sign);")
                .brokenBy("int wrongAt(", "char before = ';';", "char before = '1';");
        edges.edge("the length of the buffer if there is none.", c -> {
            c.due(0, fresh().firstError());
            for (String text : new String[] {"a", "f", "a1", "a1!", "a1;", "a1;b", "a1;b2!;", "a1!2!3!", "c123456"}) {
                c.due(text.length(), typed(text).firstError());
            }
            c.due(60, typed(FULL).firstError());
            c.due(60, typed("a" + "1".repeat(58) + ";").firstError());
            c.due(60, typed("a" + "1!".repeat(29) + "1").firstError());
        }).brokenBy("int wrongAt(", "return length;", "return NONE;")
                .brokenBy("int wrongAt(", "return length;", "return Math.min(length, 59);")
                .brokenBy("boolean mayFollow(", "sign == '!' && isSize(before)", "sign == '!' && before == '1'");
    }

    private static void layAll(Edges edges) {
        edges.edge("Lays the pebbles in the buffer, one after the other, up to the first one that is refused, "
                + "and clears the buffer.", c -> {
            PebbleCourses x = typed("a12;b3!;a4");
            x.layAll();
            c.dueText("1224444" + ".".repeat(25), sizes(x, 0));
            c.dueText("333" + ".".repeat(25), sizes(x, 1));
            c.due(1, x.count(4));
            c.due(0, x.clearBuffer());
            type(x, "f6611;c1;d2"); // the first 1 is refused, because of its course
            x.layAll();
            c.due(2, x.course(5, 1));
            c.due(0, x.course(2, 1) + x.course(3, 1));
            c.due(0, x.clearBuffer());
            type(x, "c6!1;d1"); // none is greater than 6
            x.layAll();
            c.due(0, x.course(2, 1) + x.course(3, 1));
            c.due(0, x.clearBuffer());
            PebbleCourses barred = barredAtSix();
            type(barred, "c51;c2");
            barred.layAll();
            c.dueText("55555" + ".".repeat(19), sizes(barred, 2));
            PebbleCourses none = fresh();
            none.stock(5, 1);
            type(none, "a55;a6");
            none.layAll();
            c.dueText("55555" + ".".repeat(27), sizes(none, 0));
        }).brokenBy("public int layAll(", "break;", "continue;")
                .brokenBy("public int layAll(", "text.drop();", "")
                .brokenBy("public int layAll(", "text.drop();", "if (laid > 0) { text.drop(); }")
                .brokenBy("public int layAll(", "c = sign - 'a';", "c = sign == 'c' ? 0 : sign - 'a';");
        edges.edge("Undoable, as one call, also if none is laid.", c -> {
            PebbleCourses x = typed("a12;b3!;a4");
            x.stock(1, 5);
            x.layAll();
            c.due(2, x.count(7));
            c.due(1, x.undo());
            c.due(0, x.count(0));
            c.due(5, x.stockOf(1));
            c.due(0, x.clearBuffer()); // the buffer is not brought back
            x.fill(5);
            type(x, "f1");
            x.layAll();
            c.due(3, x.count(7));
            c.due(2, x.undo());
            c.due(1, x.course(5, 3));
        }).brokenBy("public int layAll(", "history.save(mosaic);", "")
                .brokenBy("public int layAll(", "mosaic.put(", "history.save(mosaic); mosaic.put(");
        edges.edge("Returns how many are laid, fillers, too.", c -> {
            c.due(1, typed("a1").layAll());
            c.due(3, typed("a1!2!3").layAll());
            c.due(2, typed("f6611").layAll());
            c.due(0, typed("a6!").layAll());
            PebbleCourses x = typed(FULL);
            x.set(0, 60);
            x.stock(1, 99);
            c.due(59, x.layAll());
        }).brokenBy("public int layAll(", "laid++;", "laid += isFiller ? 0 : 1;")
                .brokenBy("public int layAll(", "return laid;", "return Math.max(laid, 1);")
                .brokenBy("public int layAll(", "return laid;", "return Math.min(laid, 58);");
        edges.edge("Throws `IllegalArgumentException` if the buffer is not complete pebbles as a text", c -> {
            c.argument(() -> fresh().layAll());
            for (String text : new String[] {"a", "a1;", "a1;b", "a1!;", "1", "x", "a1x", "xa1",
                "a1!!", "a1;;b1", "a7"}) {
                PebbleCourses x = typed(text);
                c.argument(x::layAll);
                c.due(0, x.count(0));
                c.due(text.length(), x.clearBuffer());
            }
            c.argument(() -> typed("a" + "1".repeat(58) + ";").layAll());
            c.due(1, typed("a1").layAll());
            c.due(1, typed("a1!").layAll());
        }).brokenBy("public int layAll(", "text.isComplete()", "text.wrongAt() == text.length()")
                .brokenBy("boolean isComplete(", " && wrongAt() == length", "")
                .brokenBy("boolean isComplete(", "return (", "return length == 0 || (");
    }

    private static void undo(Edges edges) {
        edges.edge("Restores the latest saved state, and drops it.", c -> {
            PebbleCourses x = fresh();
            x.lay(0, 1);
            x.lay(0, 2);
            x.lay(0, 3);
            x.undo();
            c.dueText("122" + ".".repeat(29), sizes(x, 0));
            x.undo();
            c.dueText("1" + ".".repeat(31), sizes(x, 0));
            x.lay(0, 5); // from here on other ways than before
            x.undo();
            c.dueText("1" + ".".repeat(31), sizes(x, 0));
            x.undo();
            c.due(0, x.count(0));
            c.state(x::undo);
        }).brokenBy("void restore(", "many--;", "")
                .brokenBy("void restore(", "next = latest;", "")
                .brokenBy("void restore(", "placeAt(latest)", "placeAt(0)");
        edges.edge("Returns how many saved states are left.", c -> {
            PebbleCourses x = fresh();
            for (int n = 0; n < 8; n++) {
                x.lay(0, 1);
            }
            for (int left = 5; left >= 0; left--) {
                c.due(left, x.undo());
                c.due(left, x.count(7));
            }
            x.lay(0, 1);
            c.due(0, x.undo());
        }).brokenBy("public int undo(", "return history.size();", "return history.size() + 1;")
                .brokenBy("public int undo(", "return history.size();", "return Math.min(history.size(), 4);");
        edges.edge("Throws `IllegalStateException` if there is none", c -> {
            c.state(() -> fresh().undo());
            PebbleCourses x = fresh();
            x.append('a');
            c.state(x::undo);
            x.stock(1, 9);
            x.undo();
            c.state(x::undo);
            c.state(x::undo);
        }).brokenBy("public int undo(", "needState(history.size() > 0);", "")
                .brokenBy("public int undo(", "needState(history.size() > 0);", "needState(history.size() >= 0);");
    }
}
