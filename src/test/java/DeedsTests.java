/** Promises 14 to 20: DEEDS, undone, kept. */
public final class DeedsTests {
    private static final int BAD = -1, FULL = -2, FINDING = -3, STATE = -4;

    public static void main(String[] args) {
        tick();
        aim();
        power();
        jam();
        undo();
        keepAndOn();
        Check.end("DeedsTests");
    }

    private static FlapBoard full() {
        FlapBoard x = Boards.aimed("2 f00 f00 f00", 5);
        Boards.ticks(x, 39);
        return x;
    }

    private static void tick() {
        Check.promise(14, "tick");
        Check.due("without drums", new FlapBoard().tick(), STATE);
        FlapBoard x = Boards.aimed("2 s00 f00 b00 f00", 2, 1, 8, 0);
        Check.due("tick(): the lowest ones", x.tick(), 2);
        Check.due("shows", x.count(3), 1100);
        Check.due("tick(): the slow one waits", x.tick(), 1);
        Check.due("shows", x.count(3), 1190);
        Check.due("tick()", x.tick(), 2);
        Check.due("shows", x.count(3), 2180);
        Check.due("tick(): told", x.tick(), 0);
        Check.due("ticks", x.count(1), 4);
        Check.due("turns", x.count(4), 5);
        Check.due("deeds", x.count(2), 7);
        FlapBoard y = Boards.aimed("1 f00 f00", 3, 3);
        y.jam(0);
        Check.due("a jammed one leaves its power", y.tick(), 1);
        Check.due("shows", y.count(3), 1);
        FlapBoard z = Boards.aimed("9 q00 f00", 8);
        Check.due("a quick one's turns count as one", z.tick(), 1);
        Check.due("turns", z.count(4), 1);
        Check.due("shows", z.count(3), 20);
        FlapBoard f = full();
        Check.due("40 deeds", f.count(2), 40);
        Check.due("tick() when full", f.tick(), FULL);
        Check.due("ticks", f.count(1), 39);
    }

    private static void aim() {
        Check.promise(15, "aim");
        FlapBoard x = Boards.of("2 f30 f00");
        Check.due("aim(0, 3)", x.aim(0, 3), STATE);
        Check.due("aim(0, 9)", x.aim(0, 9), 3);
        Check.due("aim(0, 0)", x.aim(0, 0), 9);
        Check.due("aim(0, 10)", x.aim(0, 10), BAD);
        Check.due("aim(0, -1)", x.aim(0, -1), BAD);
        Check.due("aim(2, 1)", x.aim(2, 1), BAD);
        Check.due("aim(-1, 1)", x.aim(-1, 1), BAD);
        Check.due("deeds", x.count(2), 2);
        Check.due("without drums", new FlapBoard().aim(0, 0), BAD);
        FlapBoard f = full();
        Check.due("full", f.aim(0, 9), FULL);
        Check.due("full, but it has that", f.aim(0, 5), STATE);
        Check.due("full, but bad", f.aim(0, 10), BAD);
    }

    private static void power() {
        Check.promise(16, "power");
        Check.due("without drums", new FlapBoard().power(3), STATE);
        Check.due("without drums, but bad", new FlapBoard().power(0), BAD);
        FlapBoard x = Boards.aimed("2 f00 f00 f00", 5, 5, 5);
        Check.due("power(2)", x.power(2), STATE);
        Check.due("power(3)", x.power(3), 2);
        Check.due("tick()", x.tick(), 3);
        Check.due("power(9)", x.power(9), 3);
        Check.due("power(1)", x.power(1), 9);
        Check.due("tick()", x.tick(), 1);
        Check.due("power(0)", x.power(0), BAD);
        Check.due("power(10)", x.power(10), BAD);
        Check.due("count(7)", x.count(7), 1);
        FlapBoard f = full();
        Check.due("full", f.power(1), FULL);
        Check.due("full, but it is that", f.power(2), STATE);
    }

    private static void jam() {
        Check.promise(17, "jam");
        FlapBoard x = Boards.of("2 f00 f00 f00");
        Check.due("jam(1)", x.jam(1), 1);
        Check.due("jam(2)", x.jam(2), 2);
        Check.due("count(5)", x.count(5), 6);
        Check.due("jam(1): freed", x.jam(1), 1);
        Check.due("count(5)", x.count(5), 4);
        Check.due("jam(3)", x.jam(3), BAD);
        Check.due("jam(-1)", x.jam(-1), BAD);
        Check.due("jam(32)", x.jam(32), BAD);
        Check.due("deeds", x.count(2), 3);
        Check.due("without drums", new FlapBoard().jam(0), BAD);
        Check.due("full", full().jam(0), FULL);
    }

    private static void undo() {
        Check.promise(18, "undo");
        Check.due("undo(0) without drums", new FlapBoard().undo(0), 0);
        Check.due("undo(1) without drums", new FlapBoard().undo(1), BAD);
        FlapBoard x = Boards.of("1 f00 s00");
        long[] behind = new long[8];
        behind[0] = x.digest();
        x.aim(0, 4);
        behind[1] = x.digest();
        x.tick();
        behind[2] = x.digest();
        x.jam(0);
        behind[3] = x.digest();
        x.power(5);
        behind[4] = x.digest();
        x.aim(1, 7);
        behind[5] = x.digest();
        x.tick();
        behind[6] = x.digest();
        x.jam(0);
        behind[7] = x.digest();
        Check.due("undo(8)", x.undo(8), BAD);
        Check.due("undo(-1)", x.undo(-1), BAD);
        Check.due("undo(7)", x.undo(7), 0);
        Check.due("digest()", x.digest(), behind[7]);
        Check.due("undo(5)", x.undo(5), 2);
        Check.due("digest()", x.digest(), behind[5]);
        for (int n = 4; n >= 0; n--) {
            Check.due("undo(" + n + ")", x.undo(n), 1);
            Check.due("digest() behind undo(" + n + ")", x.digest(), behind[n]);
        }
        FlapBoard y = Boards.of("3 f00 t11 q22");
        y.lots(20, 4711);
        long twenty = y.digest();
        y.lots(20, 4712);
        Check.due("lots undone", y.undo(20), 20);
        Check.due("digest()", y.digest(), twenty);
    }

    private static void keepAndOn() {
        Check.promise(19, "keep");
        Check.due("without drums", new FlapBoard().keep(0), STATE);
        Check.due("without drums, but bad", new FlapBoard().keep(3), BAD);
        FlapBoard x = Boards.aimed("2 f00 s00", 6, 6);
        Check.due("keep(0)", x.keep(0), 2);
        long first = x.digest();
        Boards.ticks(x, 3);
        Check.due("keep(2)", x.keep(2), 5);
        long second = x.digest();
        Check.due("keep(3)", x.keep(3), BAD);
        Check.due("keep(-1)", x.keep(-1), BAD);
        Check.due("count(10)", x.count(10), 2);
        Check.due("keeping is no deed", x.count(2), 5);

        Check.promise(20, "on");
        Check.due("on(1)", x.on(1), FINDING);
        Check.due("finding()", x.finding(), 1);
        Check.due("on(3)", x.on(3), BAD);
        Check.due("on(-1)", x.on(-1), BAD);
        x.undo(0);
        x.jam(1);
        Check.due("on(2)", x.on(2), 5);
        Check.due("digest() as kept", x.digest(), second);
        Check.due("its deeds can be undone", x.undo(2), 3);
        Check.due("on(0)", x.on(0), 2);
        Check.due("ticks", x.count(1), 0);
        x.on(2);
        Check.due("on(2) again: kept ones stay", x.digest(), second);
        x.on(0);
        Check.due("keep(2) anew", x.keep(2), 2);
        x.tick();
        Check.due("what is kept goes on apart", x.on(2), 2);
        Check.due("count(10)", x.count(10), 2);
        Check.holds("a digest tells what is kept", first != x.digest());
    }
}
