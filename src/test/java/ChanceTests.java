/** Promises 30 to 33: by turns, chances, lots. */
public final class ChanceTests {
    private static final int BAD = -1, FULL = -2, STATE = -4;

    public static void main(String[] args) {
        duel();
        odds();
        mid();
        lots();
        Check.end("ChanceTests");
    }

    private static void duel() {
        Check.promise(30, "duel");
        Check.due("without drums", new FlapBoard().duel(0), STATE);
        Check.due("without drums, but bad", new FlapBoard().duel(3), BAD);
        FlapBoard x = Boards.of("9 f00 f00");
        long before = x.digest();
        Check.due("duel(-1)", x.duel(-1), BAD);
        Check.due("duel(3)", x.duel(3), BAD);
        Check.due("told", x.duel(0), 0);
        Check.due("one aims at 9", x.duel(1), 9);
        Check.due("the other one aims back", x.duel(2), 0);
        Check.due("aside", x.digest(), before);
        FlapBoard y = Boards.aimed("1 f00 f00 f00", 3, 5);
        Check.due("3 and 5", y.duel(0), 8);
        Check.due("3, 5 and 9", y.duel(1), 17);
        Check.due("3, 9 and 0: the other one takes 9 or so away", y.duel(2), 8);
        FlapBoard z = Boards.of("9 s00 t01 f00");
        Check.due("a sticky one takes two more than a slow one", z.duel(1), 19);
        FlapBoard w = Boards.of("9 f00 f00");
        w.jam(0);
        Check.due("a jammed one aimed at", w.duel(1), 61);
        Check.due("and aimed back", w.duel(2), 0);
        w.aim(0, 5);
        Check.due("two ways to harm, one to help", w.duel(2), 9);
        w.jam(1);
        Check.due("both jammed", w.duel(2), 61);
        FlapBoard v = Boards.aimed("1 f00 f00 f00 f00 f00 f00 f00", 9, 9, 9, 9, 9, 9, 7);
        Check.due("not within 60", v.duel(0), 61);
        Check.due("not within 60", v.duel(1), 61);
        Check.due("63 less 9", v.duel(2), 54);
        // With little power a drum that turns on can serve better than one that stays (13, 25 by such alone).
        Check.due("the best answer does not stay", Boards.aimed("2f05b07t44k10", 3, 3, 8, 0).duel(2), 12);
        Check.due("the best answer does not stay", Boards.aimed("3f75f21t59t11s88", 6, 7, 4, 0, 6).duel(2), 23);
    }

    private static void odds() {
        Check.promise(31, "odds");
        Check.due("without drums", new FlapBoard().odds(0, 0, 0), STATE);
        Check.due("without drums, but bad", new FlapBoard().odds(0, 0, 13), BAD);
        FlapBoard x = Boards.aimed("9 f00 f00 f00", 1, 3, 0);
        Check.due("odds(-1, 0, 0)", x.odds(-1, 0, 0), BAD);
        Check.due("odds(8, 0, 0)", x.odds(8, 0, 0), BAD);
        Check.due("odds(0, -1, 0)", x.odds(0, -1, 0), BAD);
        Check.due("odds(0, 21, 0)", x.odds(0, 21, 0), BAD);
        Check.due("odds(0, 0, -1)", x.odds(0, 0, -1), BAD);
        Check.due("odds(0, 0, 13)", x.odds(0, 0, 13), BAD);
        Check.due("lower() before", x.lower(), 1);
        Check.share(x, "odds(0, 0, 5)", x.odds(0, 0, 5), 1, 1);
        Check.share(x, "odds(1, 0, 12): one is right as it is", x.odds(1, 0, 12), 1, 1);
        Check.share(x, "odds(2, 0, 0)", x.odds(2, 0, 0), 0, 1);
        Check.share(x, "odds(2, 1, 0)", x.odds(2, 1, 0), 1, 1);
        Check.share(x, "odds(2, 1, 3): the first one does not jam", x.odds(2, 1, 3), 3, 4);
        Check.share(x, "odds(3, 2, 3): the second one takes three", x.odds(3, 2, 3), 0, 1);
        Check.share(x, "odds(3, 3, 3): neither jams", x.odds(3, 3, 3), 9, 16);
        Check.share(x, "odds(2, 3, 3): one of them does not", x.odds(2, 3, 3), 15, 16);
        Check.share(x, "odds(2, 20, 12)", x.odds(2, 20, 12), 0, 1);
        Check.share(x, "odds(4, 20, 0): there are three", x.odds(4, 20, 0), 0, 1);
        Check.share(x, "odds(3, 20, 5)", x.odds(3, 20, 5), 49, 144);
        x.jam(0);
        Check.share(x, "odds(2, 3, 3): the first one is jammed", x.odds(2, 3, 3), 3, 4);
        Check.share(x, "odds(3, 3, 0)", x.odds(3, 3, 0), 0, 1);
        FlapBoard y = Boards.aimed("1 f00 f00", 2, 2);
        Check.share(y, "odds(1, 2, 6): whichever has the power", y.odds(1, 2, 6), 3, 4);
        Check.share(y, "odds(2, 3, 0)", y.odds(2, 3, 0), 0, 1);
        FlapBoard z = Boards.aimed("9 f00 f00 f00 f00 f00 f00 f00", 1, 1, 1, 1, 1, 1, 1);
        Check.share(z, "odds(7, 1, 1)", z.odds(7, 1, 1), 19487171, 35831808);
        Check.share(z, "odds(1, 1, 11)", z.odds(1, 1, 11), 35831808 - 19487171, 35831808);
        Check.due("aside", z.count(5), 0);
    }

    private static void mid() {
        Check.promise(32, "mid");
        Check.due("without drums", new FlapBoard().mid(0, 0), STATE);
        Check.due("without drums, but bad", new FlapBoard().mid(21, 0), BAD);
        FlapBoard x = Boards.aimed("9 f00 f00 f00", 1, 3, 0);
        Check.due("mid(-1, 0)", x.mid(-1, 0), BAD);
        Check.due("mid(21, 0)", x.mid(21, 0), BAD);
        Check.due("mid(0, -1)", x.mid(0, -1), BAD);
        Check.due("mid(0, 13)", x.mid(0, 13), BAD);
        Check.share(x, "mid(0, 5)", x.mid(0, 5), 1, 1);
        Check.share(x, "mid(1, 5)", x.mid(1, 5), 19, 12);
        Check.share(x, "mid(3, 5)", x.mid(3, 5), 13, 6);
        Check.share(x, "mid(3, 12)", x.mid(3, 12), 1, 1);
        Check.share(x, "mid(3, 0)", x.mid(3, 0), 3, 1);
        x.aim(2, 9);
        Check.share(x, "mid(0, 6)", x.mid(0, 6), 0, 1);
        FlapBoard y = Boards.aimed("1 f00 f00", 2, 2);
        Check.share(y, "mid(2, 6)", y.mid(2, 6), 3, 4);
        Check.share(y, "mid(4, 6)", y.mid(4, 6), 1, 1);
        y.jam(0);
        y.jam(1);
        Check.share(y, "mid(20, 6): all jammed", y.mid(20, 6), 0, 1);
    }

    private static void lots() {
        Check.promise(33, "lots");
        Check.due("without drums", new FlapBoard().lots(1, 1), STATE);
        Check.due("without drums, but bad", new FlapBoard().lots(0, 1), BAD);
        FlapBoard x = Boards.of("9 f00 f11 f22");
        Check.due("lots(0, 1)", x.lots(0, 1), BAD);
        Check.due("lots(21, 1)", x.lots(21, 1), BAD);
        Check.due("lots(1, 0)", x.lots(1, 0), BAD);
        Check.due("lots(1, -5)", x.lots(1, -5), BAD);
        Check.due("lots(1, 2147483647)", x.lots(1, 2147483647), BAD);
        // 48271 by 8 leaves 7: a tick.
        Check.due("lots(1, 1)", x.lots(1, 1), 12);
        Check.due("ticks", x.count(1), 1);
        // 8 times 48271 is 386168: by 8 it is 48271, and leaves 0; 48271 by 3 leaves 1.
        Check.due("lots(1, 8)", x.lots(1, 8), 12);
        Check.due("jammed", x.count(5), 2);
        // 7 times 48271 is 337897: it leaves 1; by 8 it is 42237, by 3 leaves 0; by 64 it is 5279.
        Check.due("lots(1, 7)", x.lots(1, 7), 12);
        Check.due("goal", Boards.fact(x, 0, 2), 9);
        // 6 times 48271 is 289626: it leaves 2; by 8 it is 36203, by 3 leaves 2; by 64 it is 4525.
        Check.due("lots(1, 6)", x.lots(1, 6), 12);
        Check.due("goal", Boards.fact(x, 2, 2), 5);
        Check.due("lots(1, 6): aimed as it is", x.lots(1, 6), 12);
        Check.due("deeds", x.count(2), 5);
        Check.due("the highest seed", x.lots(1, 2147483646) >= 0 ? 1 : 0, 1);
        FlapBoard one = Boards.of("3 f00 t11 q22 k33 b44");
        FlapBoard many = Boards.of("3 f00 t11 q22 k33 b44");
        one.lots(20, 99);
        long lot = 99;
        for (int i = 0; i < 20; i++) {
            many.lots(1, (int) lot);
            lot = lot * 48271 % 2147483647;
        }
        Check.due("a number comes from the one ahead", one.digest(), many.digest());
        Check.due("lots(20, 1)", one.lots(20, 1) >= 0 ? 1 : 0, 1);
        Check.due("40 deeds", one.count(2), 40);
        Check.due("full", one.lots(1, 1), FULL);
        one.undo(35);
        long before = one.digest();
        Check.due("six more", one.lots(6, 1), FULL);
        Check.due("nothing is done", one.digest(), before);
        Check.due("five more", one.lots(5, 1) >= 0 ? 1 : 0, 1);
    }
}
