/** Promises 27 to 29: which drum it is. */
public final class WhichTests {
    private static final int BAD = -1, FINDING = -3, NONE = -9;
    private static final int NOTHING = 1, UNLIKE = 3, SIZE = 5;
    private static final int KINDS = 0, MARKS = 1, TEST = 2;
    private static final int FLAP = 1, SLOW = 2, SKIP = 4, BACK = 8, STICKY = 16, QUICK = 32;

    public static void main(String[] args) {
        kinds();
        marks();
        test();
        Check.end("WhichTests");
    }

    private static int ask(FlapBoard x, int call, int i, int r) {
        return call == KINDS ? x.kinds(i, r) : call == MARKS ? x.marks(i, r) : x.test(i, r);
    }

    private static void found(FlapBoard x, String call, int answer, int finding) {
        Check.due(call, answer, FINDING);
        Check.due("finding() behind " + call, x.finding(), finding);
    }

    private static void refusals(int call) {
        Check.due("without drums", ask(new FlapBoard(), call, 0, 0), BAD);
        FlapBoard x = Boards.of("9 f00 f00");
        Check.due("of drum 2", ask(x, call, 2, 0), BAD);
        Check.due("of drum -1", ask(x, call, -1, 0), BAD);
        Check.due("of row 6", ask(x, call, 0, 6), BAD);
        Check.due("of row -1", ask(x, call, 0, -1), BAD);
        found(x, "of a missing row", ask(x, call, 0, 0), NOTHING);
        x.row(0, 0);
        found(x, "of none", ask(x, call, 0, 0), SIZE);
        x.row(0, 21);
        x.lay(0, 0, 10);
        found(x, "of 21", ask(x, call, 0, 0), SIZE);
        x.row(0, 20);
        x.lay(0, 19, 10);
        found(x, "of 10", ask(x, call, 0, 0), UNLIKE);
        x.lay(0, 19, -1);
        found(x, "of -1", ask(x, call, 0, 0), UNLIKE);
        x.lay(0, 19, 9);
        Check.due("of a figure", ask(x, call, 0, 0), call == TEST ? NONE : 0);
        x.lay(0, 19, 0);
        Check.holds("of 20", ask(x, call, 0, 0) > 0);
    }

    private static int kindsOf(FlapBoard x, int i, int... showed) {
        Boards.fill(x, 0, showed);
        return x.kinds(i, 0);
    }

    private static void kinds() {
        Check.promise(27, "kinds");
        refusals(KINDS);
        FlapBoard x = Boards.aimed("9 f12 f00", 6);
        Check.due("1 2 3 4 5 6 6", kindsOf(x, 0, 2, 3, 4, 5, 6, 6), FLAP);
        Check.due("2 2 3 3", kindsOf(x, 0, 2, 2, 3, 3), SLOW);
        Check.due("2 2 2 2 3", kindsOf(x, 0, 2, 2, 2, 2, 3), STICKY);
        Check.due("2 2", kindsOf(x, 0, 2, 2), SLOW | STICKY);
        Check.due("2", kindsOf(x, 0, 2), FLAP | SLOW | STICKY);
        Check.due("3 4 5", kindsOf(x, 0, 3, 4, 5), SKIP);
        Check.due("0 9 8 7 6", kindsOf(x, 0, 0, 9, 8, 7, 6), BACK);
        Check.due("4 6 6", kindsOf(x, 0, 4, 6, 6), QUICK);
        Check.due("5", kindsOf(x, 0, 5), 0);
        Check.due("the other one, told already", kindsOf(x, 1, 0, 0, 0), 63);
        FlapBoard y = Boards.aimed("1 f00 f00", 2, 2);
        Check.due("it waits for power", kindsOf(y, 1, 0, 0, 1, 2), FLAP | SKIP);
        Check.due("a back one would go on", kindsOf(y, 1, 0, 0, 9, 8), BACK);
        y.jam(1);
        Check.due("jammed", kindsOf(y, 1, 0, 0, 0, 0), 63);
        y.jam(1);
        Boards.ticks(y, 3);
        Check.due("from tick 3 on", kindsOf(y, 1, 1, 2), SLOW | STICKY);
        Check.due("the kind stays", Boards.fact(y, 1, 0), 0);
    }

    private static int marksOf(FlapBoard x, int i, int... showed) {
        Boards.fill(x, 0, showed);
        return x.marks(i, 0);
    }

    private static void marks() {
        Check.promise(28, "marks");
        refusals(MARKS);
        FlapBoard x = Boards.aimed("9 k12 t12", 6, 6);
        Check.due("a skip one that skips 4", marksOf(x, 0, 2, 3, 5, 6), 1 << 4);
        Check.due("a skip one that skips none yet", marksOf(x, 0, 2, 3), 1023 & ~(1 << 2 | 1 << 3));
        Check.due("a skip one that skips none", marksOf(x, 0, 2, 3, 4, 5, 6), 1023 & ~(1 << 2 | 1 << 3 | 1 << 4 | 1 << 5));
        Check.due("a skip one that skips two", marksOf(x, 0, 4), 0);
        Check.due("a sticky one at 2", marksOf(x, 1, 2, 2, 2, 2, 3), 1 << 2);
        Check.due("a sticky one at neither 2", marksOf(x, 1, 2, 2, 3), 1023 & ~(1 << 2));
        FlapBoard y = Boards.aimed("9 f12 f00", 6);
        Check.due("a flap: any", marksOf(y, 0, 2, 3, 4), 1023);
        Check.due("a flap: none", marksOf(y, 0, 2, 4), 0);
        Check.due("the mark stays", Boards.fact(x, 0, 3), 2);
    }

    private static void testDue(FlapBoard x, int i, int ticks, int part, int... showed) {
        Boards.fill(x, 0, showed);
        Check.due("test(" + i + ", 0)", x.test(i, 0), ticks);
        Check.due("asked()", x.asked(), part);
    }

    private static void test() {
        Check.promise(29, "test");
        refusals(TEST);
        FlapBoard x = Boards.aimed("9 f12 f00", 6);
        testDue(x, 0, 3, 1, 2);
        testDue(x, 0, 3, 1, 2, 2);
        testDue(x, 0, 1, 1, 4);
        testDue(x, 1, 1, 6, 0, 0);
        Boards.fill(x, 0, 5);
        FlapBoard y = Boards.aimed("1 f00 f00 f00 f05", 9, 9, 1, 8);
        testDue(y, 3, 20, 2, 0);
        x.drum(0, 2);
        Check.due("no kind", x.test(0, 0), NONE);
        Check.due("asked() stays", x.asked(), 6);
    }
}
