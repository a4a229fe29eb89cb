/** Promises 10 to 13: BOARDS by TEXTS, DRUMS of KINDS. */
public final class BoardsTests {
    private static final int BAD = -1, FINDING = -3, STATE = -4, NONE = -9;
    private static final int NOTHING = 1, UNLIKE = 3;

    public static void main(String[] args) {
        fault();
        board();
        drum();
        turnOfEachKind();
        readinessOfEachKind();
        mark();
        Check.end("BoardsTests");
    }

    private static void faultDue(String text, int want) {
        Check.due("fault of '" + text + "'", Boards.faultOf(text), want);
    }

    private static void fault() {
        Check.promise(10, "fault");
        faultDue("1f00f00", NONE);
        faultDue("  9  s12k34   b56t78q90  ", NONE);
        faultDue("3f12f12f12f12f12f12f12", NONE);
        faultDue("3f12f12f12f12f12f12f12  ", NONE);
        faultDue("3f12f12f12f12f12f12f12 f", 23);
        faultDue("3f12f12f12f12f12f12f12x", 22);
        faultDue("", 0);
        faultDue("   ", 3);
        faultDue("0f00f00", 0);
        faultDue(" :f00f00", 1);
        faultDue(" /f00f00", 1);
        faultDue("f00f00", 0);
        faultDue("5", 1);
        faultDue("5   ", 4);
        faultDue("55f00f00", 1);
        faultDue("5 f00", 5);
        faultDue("5 f00  ", 7);
        faultDue("5 f00 f", 7);
        faultDue("5 f00 f1", 8);
        faultDue("5 f00 F11", 6);
        faultDue("5 f00 fx1", 7);
        faultDue("5 f00 f1x", 8);
        faultDue("5 f00 f 1", 7);
        faultDue("5 f00 f1 1", 8);
        faultDue("5 f00 f:1", 7);
        faultDue("5 f00 f1/", 8);
        faultDue("5 f00 f111", 9);
        faultDue("5 f00\tf11", 5);
        faultDue("5 f00 f11\u00ff", 9);
        FlapBoard x = new FlapBoard();
        Check.due("fault(4)", x.fault(4), BAD);
        Check.due("fault(-1)", x.fault(-1), BAD);
        Check.due("fault(0)", x.fault(0), FINDING);
        Check.due("finding()", x.finding(), NOTHING);
        Boards.write(x, 0, "5f00f00");
        x.fault(0);
        Check.due("asking makes no board", x.count(0), 0);
    }

    private static void board() {
        Check.promise(11, "board");
        FlapBoard x = new FlapBoard();
        Check.due("board(4)", x.board(4), BAD);
        Check.due("board(1)", x.board(1), FINDING);
        Check.due("finding()", x.finding(), NOTHING);
        Boards.write(x, 1, "4 f12 s34 k56");
        Check.due("board(1)", x.board(1), 3);
        Check.due("what it shows", x.count(3), 135);
        x.aim(0, 9);
        x.jam(1);
        x.power(2);
        x.tick();
        x.keep(0);
        x.keep(2);
        Boards.write(x, 2, "4 f12");
        long before = x.digest();
        Check.due("board(2): a fault", x.board(2), STATE);
        Check.due("a fault is no finding", x.findings(NOTHING), 1);
        Check.due("and changes nothing", x.digest(), before);
        Check.due("board(1) anew", x.board(1), 3);
        Check.due("deeds", x.count(2), 0);
        Check.due("tick", x.count(1), 0);
        Check.due("turns", x.count(4), 0);
        Check.due("shows", x.count(3), 135);
        Check.due("jammed", x.count(5), 0);
        Check.due("right ones", x.count(6), 7);
        Check.due("power", x.count(7), 4);
        Check.due("kept boards", x.count(10), 0);
        Check.due("on(0)", x.on(0), FINDING);
        x.text(1, 0);
        Check.due("the text is not looked at again", x.count(0), 3);
    }

    private static void drum() {
        Check.promise(12, "drum");
        FlapBoard x = Boards.of("4 f12 s34 k56 b78 t90 q13");
        for (int i = 0; i < 6; i++) {
            Check.due("kind of " + i, Boards.fact(x, i, 0), i);
        }
        x.aim(1, 7);
        x.jam(1);
        int[] facts = {1, 3, 7, 4, 1, 1, 4};
        for (int what = 0; what < 7; what++) {
            Check.due("drum(1, " + what + ")", x.drum(1, what), 1);
            Check.due("asked() of drum(1, " + what + ")", x.asked(), facts[what]);
        }
        Check.due("drum(6, 0)", x.drum(6, 0), BAD);
        Check.due("drum(-1, 0)", x.drum(-1, 0), BAD);
        Check.due("drum(0, 7)", x.drum(0, 7), BAD);
        Check.due("drum(0, -1)", x.drum(0, -1), BAD);
        Check.due("asked() stays", x.asked(), 4);
    }

    private static void turnDue(String drum, int goal, int want) {
        FlapBoard x = Boards.aimed("9 " + drum + " f00", goal);
        Check.due(drum + " aimed at " + goal + " turns to", Boards.fact(x, 0, 6), want);
    }

    private static void turnOfEachKind() {
        Check.promise(12, "drum, what it would show");
        turnDue("f30", 3, 4);
        turnDue("f90", 3, 0);
        turnDue("s90", 3, 0);
        turnDue("t90", 3, 0);
        turnDue("b90", 3, 8);
        turnDue("b00", 3, 9);
        turnDue("k12", 5, 3);
        turnDue("k12", 2, 2);
        turnDue("k11", 5, 2);
        turnDue("k80", 5, 9);
        turnDue("k90", 5, 1);
        turnDue("k90", 0, 0);
        turnDue("k89", 5, 0);
        turnDue("q15", 9, 3);
        turnDue("q15", 2, 2);
        turnDue("q15", 1, 3);
        turnDue("q12", 9, 4);
        turnDue("q12", 3, 3);
        turnDue("q12", 2, 2);
        turnDue("q13", 9, 4);
        turnDue("q13", 3, 3);
        turnDue("q13", 2, 2);
        turnDue("q80", 5, 1);
        turnDue("q85", 9, 9);
        turnDue("q90", 5, 2);
    }

    private static void readinessOfEachKind() {
        Check.promise(12, "drum, whether it is ready");
        String[] drums = {"f10", "s11", "k10", "b10", "t10", "q10", "t11"};
        int[] want = {0b1111, 0b0101, 0b1111, 0b1111, 0b0101, 0b1111, 0b0001};
        for (int d = 0; d < drums.length; d++) {
            FlapBoard x = Boards.aimed("9 " + drums[d] + " f00", 5);
            x.jam(0);
            for (int t = 0; t < 8; t++) {
                Check.due(drums[d] + " in tick " + t, Boards.fact(x, 0, 5), want[d] >> t % 4 & 1);
                x.tick();
            }
            x.aim(0, 1);
            Check.due(drums[d] + " at its goal", Boards.fact(x, 0, 5), 0);
        }
    }

    private static void markDue(String drum, int goal, int kind, int want) {
        FlapBoard x = Boards.aimed("9 " + drum + " f00", goal);
        Check.due("mark(0, " + kind + ") of " + drum + " aimed at " + goal, x.mark(0, kind), want);
        x.tick();
        x.undo(x.count(2) - 1);
        Check.due("mark(0, " + kind + ") once more", x.mark(0, kind), want);
    }

    private static void mark() {
        Check.promise(13, "mark");
        markDue("s33", 5, 1, 4);
        markDue("s33", 3, 1, 4);
        markDue("t34", 3, 1, 4);
        markDue("t33", 3, 1, 2);
        markDue("t33", 9, 4, 2);
        markDue("t34", 9, 4, 0);
        markDue("k34", 5, 2, 1);
        markDue("k34", 4, 2, 0);
        markDue("k30", 5, 2, 0);
        markDue("q15", 5, 2, 2);
        markDue("q30", 5, 2, 4);
        markDue("b30", 3, 3, 0);
        markDue("b30", 2, 3, 1);
        markDue("b30", 4, 3, 9);
        markDue("q34", 5, 5, 2);
        markDue("q34", 6, 5, 3);
        markDue("q34", 4, 5, 1);
        markDue("q89", 5, 5, 3);
        FlapBoard x = Boards.of("9 f00 s00 k00 b00 t00 q00");
        int[] kindsOf = {0b000001, 0b000011, 0b000101, 0b001001, 0b010011, 0b100101};
        for (int i = 0; i < 6; i++) {
            for (int kind = 1; kind < 6; kind++) {
                boolean is = (kindsOf[i] >> kind & 1) != 0;
                Check.holds("drum " + i + " is of kind " + kind + ": " + is, (x.mark(i, kind) == FINDING) != is);
            }
            Check.due("kind 0", x.mark(i, 0), BAD);
            Check.due("kind 6", x.mark(i, 6), BAD);
            Check.due("kind -1", x.mark(i, -1), BAD);
        }
        Check.due("finding()", x.finding(), UNLIKE);
        Check.due("mark(6, 1)", x.mark(6, 1), BAD);
        Check.due("mark(-1, 1)", x.mark(-1, 1), BAD);
        Check.due("without drums", new FlapBoard().mark(0, 1), BAD);
        x.tick();
        Check.due("in an odd tick", x.mark(1, 1), 4);
        Check.due("in an odd tick", x.mark(4, 1), 2);
        Check.due("in an odd tick", x.mark(4, 4), 2);
    }
}
