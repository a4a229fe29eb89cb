/** Promises 1 to 9: a new object, ROWS, TEXTS. */
public final class RowsTests {
    private static final int BAD = -1, FINDING = -3;
    private static final int NOTHING = 1, BEYOND = 2, NOUGHT = 4, SIZE = 5;
    private static final int LOW = Integer.MIN_VALUE, HIGH = Integer.MAX_VALUE;

    public static void main(String[] args) {
        newObject();
        row();
        lay();
        at();
        tear();
        copy();
        mean();
        text();
        put();
        Check.end("RowsTests");
    }

    private static void found(FlapBoard x, String call, int answer, int finding) {
        Check.due(call, answer, FINDING);
        Check.due("finding() behind " + call, x.finding(), finding);
    }

    private static void newObject() {
        Check.promise(1, "a new object");
        FlapBoard x = new FlapBoard();
        for (int what = 0; what <= 12; what++) {
            Check.due("count(" + what + ")", x.count(what), 0);
        }
        for (int f = 1; f <= 5; f++) {
            Check.due("findings(" + f + ")", x.findings(f), 0);
        }
        for (int r = 0; r < 6; r++) {
            found(x, "at(" + r + ", 0)", x.at(r, 0), NOTHING);
        }
        for (int t = 0; t < 4; t++) {
            found(x, "fault(" + t + ")", x.fault(t), NOTHING);
        }
        Check.due("drum(0, 0)", x.drum(0, 0), BAD);
    }

    private static void row() {
        Check.promise(2, "row");
        FlapBoard x = new FlapBoard();
        Check.due("row(0, 0)", x.row(0, 0), 0);
        Check.due("row(5, 40)", x.row(5, 40), 40);
        Check.due("row(5, 41)", x.row(5, 41), BAD);
        Check.due("row(5, high)", x.row(5, HIGH), BAD);
        Check.due("row(-1, 3)", x.row(-1, 3), BAD);
        Check.due("row(6, 3)", x.row(6, 3), BAD);
        Check.due("row(6, -1): BAD comes first", x.row(6, -1), BAD);
        Check.due("no finding yet", x.finding(), 0);
        found(x, "row(1, -1)", x.row(1, -1), SIZE);
        found(x, "row(1, low)", x.row(1, LOW), SIZE);
        Check.due("only two are there", x.count(8), 2);
        x.lay(5, 39, 7);
        found(x, "row(5, -1)", x.row(5, -1), SIZE);
        Check.due("what is refused changes nothing", x.at(5, 39), 1);
        Check.due("asked()", x.asked(), 7);
        Check.due("row(5, 40) anew", x.row(5, 40), 40);
        Check.due("at(5, 39)", x.at(5, 39), 1);
        Check.due("asked() anew", x.asked(), 0);
        x.lay(5, 39, 7);
        x.row(5, 3);
        x.row(5, 40);
        x.at(5, 39);
        Check.due("asked() of a row shorter in between", x.asked(), 0);
    }

    private static void lay() {
        Check.promise(3, "lay");
        FlapBoard x = new FlapBoard();
        x.row(2, 3);
        Check.due("lay(2, 0, low)", x.lay(2, 0, LOW), 1);
        Check.due("asked()", x.asked(), 0);
        Check.due("lay(2, 0, 5)", x.lay(2, 0, 5), 1);
        Check.due("asked()", x.asked(), LOW);
        Check.due("lay(2, 2, 9)", x.lay(2, 2, 9), 1);
        Check.due("lay(6, 0, 1)", x.lay(6, 0, 1), BAD);
        Check.due("lay(-1, 0, 1)", x.lay(-1, 0, 1), BAD);
        found(x, "lay(3, 0, 1)", x.lay(3, 0, 1), NOTHING);
        found(x, "lay(3, -1, 1)", x.lay(3, -1, 1), NOTHING);
        found(x, "lay(2, 3, 1)", x.lay(2, 3, 1), BEYOND);
        found(x, "lay(2, -1, 1)", x.lay(2, -1, 1), BEYOND);
        found(x, "lay(2, high, 1)", x.lay(2, HIGH, 1), BEYOND);
        Check.ints("row 2", Boards.row(x, 2), 5, 0, 9);
    }

    private static void at() {
        Check.promise(4, "at");
        FlapBoard x = new FlapBoard();
        Boards.fill(x, 0, 4, -5, 6);
        Check.due("at(0, 1)", x.at(0, 1), 1);
        Check.due("asked()", x.asked(), -5);
        Check.due("at(6, 0)", x.at(6, 0), BAD);
        Check.due("at(-1, 0)", x.at(-1, 0), BAD);
        found(x, "at(1, 0)", x.at(1, 0), NOTHING);
        found(x, "at(0, 3)", x.at(0, 3), BEYOND);
        found(x, "at(0, low)", x.at(0, LOW), BEYOND);
        Check.due("asked() stays", x.asked(), -5);
        x.row(0, 0);
        found(x, "at(0, 0) of an empty one", x.at(0, 0), BEYOND);
    }

    private static void tear() {
        Check.promise(5, "tear");
        FlapBoard x = new FlapBoard();
        x.row(0, 0);
        x.row(1, 2);
        Check.due("tear(1)", x.tear(1), 1);
        Check.due("count(8)", x.count(8), 1);
        found(x, "tear(1) again", x.tear(1), NOTHING);
        Check.due("tear(0): an empty one is there", x.tear(0), 1);
        Check.due("tear(6)", x.tear(6), BAD);
        Check.due("tear(-1)", x.tear(-1), BAD);
        found(x, "at(1, 0)", x.at(1, 0), NOTHING);
    }

    private static void copy() {
        Check.promise(6, "copy");
        FlapBoard x = new FlapBoard();
        Boards.fill(x, 0, 1, 2, 3, 4, 5);
        Boards.fill(x, 1, 10, 20, 30);
        Check.due("copy(0, 1, 1, 0, 2)", x.copy(0, 1, 1, 0, 2), 1);
        Check.ints("row 1", Boards.row(x, 1), 2, 3, 30);
        Check.due("copy(0, 0, 0, 1, 4): onto itself", x.copy(0, 0, 0, 1, 4), 1);
        Check.ints("row 0", Boards.row(x, 0), 1, 1, 2, 3, 4);
        Check.due("copy(0, 2, 0, 0, 3): and back", x.copy(0, 2, 0, 0, 3), 1);
        Check.ints("row 0", Boards.row(x, 0), 2, 3, 4, 3, 4);
        Check.due("copy(0, 5, 1, 3, 0): none from the end", x.copy(0, 5, 1, 3, 0), 1);
        Check.due("copy(6, 0, 0, 0, -1)", x.copy(6, 0, 0, 0, -1), BAD);
        Check.due("copy(0, 0, -1, 0, 1)", x.copy(0, 0, -1, 0, 1), BAD);
        found(x, "copy(2, 0, 0, 0, -1)", x.copy(2, 0, 0, 0, -1), SIZE);
        found(x, "copy(2, 0, 0, 0, 0)", x.copy(2, 0, 0, 0, 0), NOTHING);
        found(x, "copy(0, 9, 2, 0, 0)", x.copy(0, 9, 2, 0, 0), NOTHING);
        found(x, "copy(0, 4, 1, 0, 2)", x.copy(0, 4, 1, 0, 2), BEYOND);
        found(x, "copy(0, 0, 1, 2, 2)", x.copy(0, 0, 1, 2, 2), BEYOND);
        found(x, "copy(0, -1, 1, 0, 1)", x.copy(0, -1, 1, 0, 1), BEYOND);
        found(x, "copy(0, 0, 1, -1, 1)", x.copy(0, 0, 1, -1, 1), BEYOND);
        found(x, "copy(0, 6, 1, 0, 0)", x.copy(0, 6, 1, 0, 0), BEYOND);
        found(x, "copy(0, high, 1, 0, high)", x.copy(0, HIGH, 1, 0, HIGH), BEYOND);
        found(x, "copy(0, low, 1, 0, high)", x.copy(0, LOW, 1, 0, HIGH), BEYOND);
        Check.ints("row 0 stays", Boards.row(x, 0), 2, 3, 4, 3, 4);
        Check.ints("row 1 stays", Boards.row(x, 1), 2, 3, 30);
    }

    private static void mean() {
        Check.promise(7, "mean");
        FlapBoard x = new FlapBoard();
        Boards.fill(x, 0, 1, 2, 2);
        Check.due("mean(0)", x.mean(0), 1);
        Check.due("5 by 3, cut", x.asked(), 1);
        Boards.fill(x, 0, -1, -2, -2);
        x.mean(0);
        Check.due("-5 by 3, cut", x.asked(), -1);
        Boards.fill(x, 0, HIGH, HIGH, HIGH);
        x.mean(0);
        Check.due("of the highest", x.asked(), HIGH);
        Boards.fill(x, 0, LOW, LOW);
        x.mean(0);
        Check.due("of the lowest", x.asked(), LOW);
        Check.due("mean(6)", x.mean(6), BAD);
        Check.due("mean(-1)", x.mean(-1), BAD);
        found(x, "mean(1)", x.mean(1), NOTHING);
        x.row(1, 0);
        found(x, "mean(1) of none", x.mean(1), NOUGHT);
        Check.due("asked() stays", x.asked(), LOW);
    }

    private static void text() {
        Check.promise(8, "text");
        FlapBoard x = new FlapBoard();
        Check.due("text(0, 0)", x.text(0, 0), 0);
        Check.due("text(3, 60)", x.text(3, 60), 60);
        Check.due("put(3, 59, 65)", x.put(3, 59, 65), 1032);
        Check.due("text(3, 61)", x.text(3, 61), BAD);
        Check.due("text(4, 1)", x.text(4, 1), BAD);
        Check.due("text(-1, -1)", x.text(-1, -1), BAD);
        found(x, "text(3, -1)", x.text(3, -1), SIZE);
        Check.due("what was there stays", x.put(3, 59, 66), 1065);
        Check.due("text(3, 60) anew", x.text(3, 60), 60);
        Check.due("blanks anew", x.put(3, 59, 66), 1032);
        Check.due("count(9)", x.count(9), 2);
    }

    private static void put() {
        Check.promise(9, "put");
        FlapBoard x = new FlapBoard();
        x.text(1, 2);
        Check.due("put(1, 0, 255)", x.put(1, 0, 255), 1032);
        Check.due("put(1, 0, 128)", x.put(1, 0, 128), 999);
        Check.due("put(1, 0, -1000)", x.put(1, 0, -1000), 872);
        Check.due("put(1, 0, 256)", x.put(1, 0, 256), 1024);
        Check.due("put(1, 0, 127)", x.put(1, 0, 127), 1000);
        Check.due("put(1, 0, 0)", x.put(1, 0, 0), 1127);
        Check.due("put(4, 0, 1)", x.put(4, 0, 1), BAD);
        Check.due("put(-1, 0, 1)", x.put(-1, 0, 1), BAD);
        found(x, "put(0, 0, 1)", x.put(0, 0, 1), NOTHING);
        found(x, "put(1, 2, 1)", x.put(1, 2, 1), BEYOND);
        found(x, "put(1, -1, 1)", x.put(1, -1, 1), BEYOND);
        Check.due("asked() is none of put's", x.asked(), 0);
    }
}
