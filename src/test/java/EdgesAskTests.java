import java.math.BigInteger;

/** Promises 21 to 40 at their edges, sentence by sentence; what they refuse stands in RefusalsTests. */
public final class EdgesAskTests {
    private static final int FINDING = -3, NONE = -9;
    private static final int FLAP = 1, SLOW = 2, SKIP = 4, BACK = 8, STICKY = 16, QUICK = 32;
    private static final String FLAPS = "1f00f00f00f00f00f00f00";
    private static final String SLOWS = "1s00s00s00s00s00s00s00";
    /** From 0 and from one another 30 TURNS or more, in SLOW ones' odd TICKS 60 TICKS: in no order fewer. */
    private static final int[] FAR_APART = {1778142, 5313909, 9247873, 7286386, 8193036};

    public static void main(String[] args) {
        later();
        ends();
        passes();
        least();
        soonest();
        order();
        orderOfMany();
        kindsAndMarks();
        test();
        duel();
        odds();
        mid();
        lotsBySign();
        lotsByNumber();
        asked();
        upperAndLower();
        count();
        findings();
        digest();
        shorterThanBefore();
        calls512();
        Check.end("EdgesAskTests");
    }

    private static FlapBoard sixtyTicks() {
        return Boards.aimed(FLAPS, 9, 9, 9, 9, 9, 9, 6);
    }

    private static FlapBoard sixtyOneTicks() {
        return Boards.aimed(FLAPS, 9, 9, 9, 9, 9, 9, 7);
    }

    private static void due(FlapBoard x, String call, int answer, int want, int asked) {
        Check.due(call, answer, want);
        Check.due("asked() behind " + call, x.asked(), asked);
    }

    // ---- 3 what comes

    private static void later() {
        Check.promise(21, "What THE BOARD SHOWS behind n (0 .. 60) TICKS, as a number; how many TURNS in them by asked().");
        FlapBoard x = sixtyOneTicks();
        due(x, "later(0)", x.later(0), 0, 0);
        due(x, "later(1)", x.later(1), 1000000, 1);
        due(x, "later(59)", x.later(59), 9999995, 59);
        due(x, "later(60)", x.later(60), 9999996, 60);
        FlapBoard y = Boards.aimed("3s01t12k23b34t45q56f67", 9, 5, 1, 5, 3, 0, 2);
        FlapBoard real = Boards.aimed("3s01t12k23b34t45q56f67", 9, 5, 1, 5, 3, 0, 2);
        y.tick();
        real.tick();
        int before = real.count(4);
        for (int n = 0; n <= 32; n++) {
            due(y, "later(" + n + ") as by TICKS that go by", y.later(n), real.count(3), real.count(4) - before);
            real.tick();
        }
    }

    private static void ends() {
        Check.promise(22, "Behind how many TICKS (0 .. 60) it is TOLD first; how many TURNS till then by asked(). NONE: not by then.");
        FlapBoard x = Boards.of("1f00s00");
        x.drum(0, 6);
        due(x, "ends() of what is TOLD", x.ends(), 0, 0);
        x.aim(0, 1);
        due(x, "ends()", x.ends(), 1, 1);
        x.tick();
        x.aim(1, 3);
        due(x, "ends() from TICK 1 on: TURNS in TICKS 2, 4, 6", x.ends(), 6, 3);
        FlapBoard sixty = sixtyTicks();
        due(sixty, "ends() of 60", sixty.ends(), 60, 60);
        FlapBoard more = sixtyOneTicks();
        more.drum(0, 2);
        due(more, "ends() of 61", more.ends(), NONE, 9);
        more.tick();
        due(more, "a TICK later it is 60", more.ends(), 60, 60);
        FlapBoard jammed = Boards.aimed("9f00f00", 1, 1);
        jammed.drum(0, 2);
        jammed.jam(1);
        due(jammed, "ends() of a JAMMED one", jammed.ends(), NONE, 1);
    }

    private static void passes() {
        Check.promise(23, "How many different numbers it SHOWS from now on till it is TOLD (60 TICKS at most), the one now and the last one, too; the greatest of them by asked().");
        FlapBoard told = Boards.of("9f70f30");
        due(told, "TOLD: the one now", told.passes(), 1, 73);
        FlapBoard once = Boards.aimed("9f00f00", 1);
        due(once, "the one now and the last one", once.passes(), 2, 10);
        FlapBoard slow = Boards.aimed("9s00f00", 3);
        due(slow, "one SHOWN twice counts once", slow.passes(), 4, 30);
        FlapBoard first = Boards.aimed("9f90f00", 1);
        due(first, "90 0 10: the greatest is the first", first.passes(), 3, 90);
        FlapBoard middle = Boards.aimed("9b10f00", 8);
        due(middle, "10 0 90 80: the greatest is between", middle.passes(), 4, 90);
        FlapBoard sixty = sixtyTicks();
        due(sixty, "60 TICKS", sixty.passes(), 61, 9999996);
        FlapBoard more = sixtyOneTicks();
        due(more, "61 TICKS: the last one is not SHOWN", more.passes(), 61, 9999996);
        FlapBoard fewer = Boards.aimed(FLAPS, 9, 9, 9, 9, 9, 9, 5);
        due(fewer, "59 TICKS", fewer.passes(), 60, 9999995);
        FlapBoard jammed = Boards.aimed("9f40f00", 5);
        jammed.jam(0);
        due(jammed, "never TOLD, never another one", jammed.passes(), 1, 40);
        jammed.aim(1, 9);
        due(jammed, "40 to 49, never TOLD", jammed.passes(), 10, 49);
    }

    // ---- 4 what to do

    private static void least() {
        Check.promise(24, "The least POWER by which it is TOLD as soon as by a POWER of 9; behind how many TICKS that is by asked(). NONE: not within 60.");
        for (int n = 0; n <= 7; n++) {
            FlapBoard x = Boards.of(FLAPS);
            x.power(1 + n);
            for (int i = 0; i < n; i++) {
                x.aim(i, 1);
            }
            due(x, "least() of " + n + " that TURN once", x.least(), Math.max(n, 1), n == 0 ? 0 : 1);
            Check.due("the POWER stays", x.count(7), 1 + n);
        }
        FlapBoard x = Boards.aimed("1f00f00", 2, 1);
        due(x, "least() of 2 and 1", x.least(), 2, 2);
        x.aim(1, 0);
        due(x, "least() of 2 alone", x.least(), 1, 2);
        x.drum(0, 2);
        x.jam(0);
        due(x, "least() of a JAMMED one", x.least(), NONE, 2);
        x.aim(0, 0);
        due(x, "a JAMMED one that SHOWS its GOAL", x.least(), 1, 0);
        // By a POWER of 1 it takes 63 TICKS, which are not within 60, by 7 it takes 9.
        FlapBoard y = Boards.aimed(FLAPS, 9, 9, 9, 9, 9, 9, 9);
        due(y, "least() of seven that take 9 each", y.least(), 7, 9);
    }

    private static void messages(FlapBoard x, int... messages) {
        Boards.fill(x, 0, messages);
    }

    private static void soonest() {
        Check.promise(25, "The message (the first) of a ROW of 1 to 5 numbers that is TOLD soonest, if all DRUMS are AIMED at its figures now (0s at the left, as many as due): its place in the ROW; behind how many TICKS (0 .. 60) by asked(). NONE: none within 60.");
        FlapBoard x = Boards.of("9f00f00");
        messages(x, 5);
        due(x, "one", x.soonest(0), 0, 5);
        messages(x, 9, 8, 7, 6, 5);
        due(x, "five, the last one soonest", x.soonest(0), 4, 5);
        messages(x, 5, 6, 7, 8, 9);
        due(x, "five, the first one soonest", x.soonest(0), 0, 5);
        messages(x, 9, 55, 5, 50, 8);
        due(x, "the first of those as soon", x.soonest(0), 1, 5);
        messages(x, 99, 99, 0, 0, 99);
        due(x, "TOLD already, the first", x.soonest(0), 2, 0);
        x.aim(0, 9);
        x.aim(1, 9);
        due(x, "all DRUMS are AIMED anew", x.soonest(0), 2, 0);
        messages(x, 99);
        due(x, "as they are AIMED now", x.soonest(0), 0, 9);
        FlapBoard seven = Boards.of(FLAPS);
        messages(seven, 1);
        due(seven, "0s at the left", seven.soonest(0), 0, 1);
        messages(seven, 1000000, 10);
        due(seven, "none at the right", seven.soonest(0), 0, 1);
        messages(seven, 9999996);
        due(seven, "60 TICKS", seven.soonest(0), 0, 60);
        messages(seven, 9999997, 9999996);
        due(seven, "61 TICKS, then 60", seven.soonest(0), 1, 60);
        messages(seven, 9999997);
        seven.drum(0, 6);
        due(seven, "61 TICKS", seven.soonest(0), NONE, 1);
        seven.jam(6);
        messages(seven, 1, 2, 3, 4, 5);
        seven.drum(0, 6);
        due(seven, "five, none of them", seven.soonest(0), NONE, 1);
        messages(seven, 1, 2, 3, 4, 10);
        due(seven, "five, the last one alone", seven.soonest(0), 4, 1);
    }

    private static void orderDue(FlapBoard x, int to, int ticks, int... order) {
        Check.due("order(0, " + to + ")", x.order(0, to), ticks);
        Check.ints("ROW " + to, Boards.row(x, to), order);
    }

    private static void order() {
        Check.promise(26, "The order of all these messages (each AIMED at, when the one ahead is TOLD) that takes fewest TICKS in all, of several the first (places rising), comes to a ROW (anew; perhaps the same): how many TICKS.");
        FlapBoard x = Boards.of("9f00f00");
        messages(x, 7);
        Check.due("ROWS", x.count(8), 1);
        orderDue(x, 5, 7, 0);
        Check.due("a ROW that was missing is there", x.count(8), 2);
        messages(x, 5, 4, 3, 2, 1);
        x.row(4, 40);
        orderDue(x, 4, 5, 4, 3, 2, 1, 0);
        orderDue(x, 0, 5, 4, 3, 2, 1, 0);
        messages(x, 0, 0, 0, 0, 0);
        orderDue(x, 0, 0, 0, 1, 2, 3, 4);
        // 1 then 10 takes 1 and 9, 10 then 1 the same.
        messages(x, 1, 10);
        orderDue(x, 1, 10, 0, 1);
        messages(x, 10, 1);
        orderDue(x, 1, 10, 0, 1);
        messages(x, 2, 2, 1);
        orderDue(x, 1, 2, 2, 0, 1);
        messages(x, 90, 0);
        orderDue(x, 1, 9, 1, 0);
        FlapBoard slow = Boards.of("9s00f00");
        messages(slow, 10, 20);
        orderDue(slow, 1, 3, 0, 1);
        slow.tick();
        orderDue(slow, 1, 4, 0, 1);
    }

    private static void orderOfMany() {
        Check.promise(26, "NONE: in no order is each TOLD within 60 of its beginning (the ROW stays).");
        FlapBoard x = Boards.of(FLAPS);
        messages(x, 9999996);
        orderDue(x, 1, 60, 0);
        messages(x, 9999997);
        Check.due("61 TICKS", x.order(0, 1), NONE);
        Check.ints("ROW 1 stays", Boards.row(x, 1), 0);
        Check.due("61 TICKS, to the same ROW", x.order(0, 0), NONE);
        Check.ints("ROW 0 stays", Boards.row(x, 0), 9999997);
        Check.due("61 TICKS, to a missing ROW", x.order(0, 2), NONE);
        Check.due("it stays missing", x.at(2, 0), FINDING);
        messages(x, 0, 9999997);
        Check.due("one of two", x.order(0, 1), NONE);
        messages(x, 9999997, 1);
        orderDue(x, 1, 61, 1, 0);
        messages(x, 9999996, 9999997);
        orderDue(x, 1, 61, 0, 1);
        FlapBoard slow = Boards.of(SLOWS);
        messages(slow, FAR_APART);
        orderDue(slow, 1, 299, 0, 3, 1, 4, 2);
        slow.tick();
        orderDue(slow, 1, 300, 0, 3, 1, 4, 2);
        slow.jam(6);
        Check.due("none of them by a JAMMED one", slow.order(0, 1), NONE);
        Check.ints("ROW 1 stays", Boards.row(slow, 1), 0, 3, 1, 4, 2);
    }

    // ---- 5 which drum it is

    /** DRUM 3 has POWER from TICK 19 on: behind 20 TICKS it can SHOW another figure first. */
    private static FlapBoard waiting(String drum) {
        return Boards.aimed("1f00f00f00" + drum, 9, 9, 1, 8);
    }

    private static int[] noughts(int n, int last) {
        int[] row = new int[n];
        row[n - 1] = last;
        return row;
    }

    private static void kindsAndMarks() {
        Check.promise(27, "KINDS (bits) that a DRUM can be of (all else as it is).");
        FlapBoard x = waiting("f05");
        showedDue(x, FLAP | SLOW | SKIP | BACK | STICKY | QUICK, noughts(1, 0));
        showedDue(x, FLAP | SLOW | SKIP | BACK | STICKY | QUICK, noughts(19, 0));
        showedDue(x, SLOW | STICKY, noughts(20, 0));
        showedDue(x, FLAP | SKIP, noughts(20, 1));
        showedDue(x, BACK, noughts(20, 9));
        showedDue(x, QUICK, noughts(20, 2));
        showedDue(x, 0, noughts(20, 3));
        showedDue(x, 0, noughts(19, 1));
        showedDue(x, 0, noughts(1, 9));
        x.jam(3);
        showedDue(x, 63, noughts(20, 0));
        showedDue(x, 0, noughts(20, 1));
        Check.promise(28, "MARKS (bits 0 .. 9) that it can have.");
        FlapBoard y = waiting("k05");
        markedDue(y, 1023, noughts(1, 0));
        markedDue(y, 1023, noughts(19, 0));
        markedDue(y, 1023 - (1 << 1), noughts(20, 1));
        markedDue(y, 1 << 1, noughts(20, 2));
        markedDue(y, 0, noughts(20, 0));
        markedDue(y, 0, noughts(20, 9));
        FlapBoard t = Boards.aimed("9t90f00", 5);
        markedDue(t, 1023, 0);
        markedDue(t, 1, 0, 0, 0, 0, 1);
        markedDue(t, 1022, 0, 0, 1);
        FlapBoard late = Boards.of("9t90f00");
        late.tick();
        late.aim(0, 5);
        markedDue(late, 1 << 9, 9, 9, 9, 0);
        markedDue(late, 1023 - (1 << 9), 9, 0);
    }

    private static void showedDue(FlapBoard x, int want, int... showed) {
        Boards.fill(x, 0, showed);
        Check.due("kinds by " + showed.length + ", the last " + showed[showed.length - 1], x.kinds(3, 0), want);
    }

    private static void markedDue(FlapBoard x, int want, int... showed) {
        Boards.fill(x, 0, showed);
        int i = x.count(0) == 2 ? 0 : 3;
        Check.due("marks by " + showed.length + ", the last " + showed[showed.length - 1], x.marks(i, 0), want);
    }

    private static void test() {
        Check.promise(29, "Behind how many TICKS (1 .. 20) to look what it SHOWS so that these KINDS are told apart best: the greatest part of those by which that is alike is least (the first); that part by asked(). NONE: there is no KIND.");
        FlapBoard x = waiting("f05");
        Boards.fill(x, 0, noughts(19, 0));
        due(x, "told apart behind 20 alone", x.test(3, 0), 20, 2);
        Boards.fill(x, 0, noughts(20, 9));
        due(x, "one KIND", x.test(3, 0), 1, 1);
        FlapBoard y = Boards.aimed("1f00f00f00f05", 9, 9, 2, 8);
        Boards.fill(y, 0, 0);
        due(y, "told apart behind 21: too late", y.test(3, 0), 1, 6);
        FlapBoard one = Boards.aimed("9f05f00", 8);
        Boards.fill(one, 0, 1);
        // FLAP, SLOW, SKIP, STICKY: behind 1 all SHOW 1, behind 2 there are 2 2 1 1, behind 4 there are 4 4 2 2, ..
        due(one, "behind 2 two parts of two", one.test(0, 0), 2, 2);
        FlapBoard back = Boards.aimed("9f01f00", 9);
        Boards.fill(back, 0, 9);
        due(back, "a BACK one", back.test(0, 0), 1, 1);
        Boards.fill(back, 0, 8);
        back.drum(0, 2);
        due(back, "no KIND", back.test(0, 0), NONE, 9);
    }

    // ---- 6 by turns

    private static void duel() {
        Check.promise(30, "By n (0 .. 2) turns in all one AIMS a DRUM at a figure (perhaps at that which is its GOAL), then another one does: behind how many TICKS it is TOLD then (not within 60: 61), the first wanting it late, the other one soon.");
        Check.due("duel(0), TOLD", Boards.of(FLAPS).duel(0), 0);
        Check.due("duel(0) of 60", sixtyTicks().duel(0), 60);
        Check.due("duel(0) of 61", sixtyOneTicks().duel(0), 61);
        Check.due("duel(0) of 63", Boards.aimed(FLAPS, 9, 9, 9, 9, 9, 9, 9).duel(0), 61);
        Check.due("duel(1), TOLD: one DRUM 9 TURNS", Boards.of(FLAPS).duel(1), 9);
        Check.due("duel(1): all is late already, the GOAL that it has", Boards.aimed("1f00f00", 9, 9).duel(1), 18);
        Check.due("duel(1) of 51 and 9", Boards.aimed(FLAPS, 9, 9, 9, 9, 9, 6, 0).duel(1), 60);
        Check.due("duel(1) of 53 and 9", Boards.aimed(FLAPS, 9, 9, 9, 9, 9, 8, 0).duel(1), 61);
        Check.due("duel(1): the first DRUM is the one", Boards.of("9s00f00f00").duel(1), 17);
        Check.due("duel(1): the last DRUM is the one", Boards.of("9f00f00s00").duel(1), 17);
        Check.due("duel(1): 0 is the figure", Boards.of("9f10f10").duel(1), 9);
        Check.due("duel(1): 9 is the figure", Boards.of("9f00f00").duel(1), 9);
        Check.due("duel(2), TOLD: back, or the GOAL that it has", Boards.of(FLAPS).duel(2), 0);
        Check.due("duel(2), TOLD: back to 9", Boards.of("9f90f90").duel(2), 0);
        Check.due("duel(2) of 30 TURNS by SLOW ones, 9 more, 9 fewer", slowDuel(3).duel(2), 60);
        Check.due("duel(2) of 31 TURNS", slowDuel(4).duel(2), 61);
        FlapBoard x = Boards.aimed("9f00f00", 3);
        x.jam(0);
        Check.due("duel(0) of a JAMMED one", x.duel(0), 61);
        Check.due("duel(1) of a JAMMED one", x.duel(1), 61);
        x.drum(0, 2);
        x.duel(2);
        Check.due("asked() is none of it", x.asked(), 3);
        x.jam(1);
        Check.due("duel(2): two of two JAMMED, one of them AIMED back", x.duel(2), 61);
        x.aim(0, 0);
        Check.due("duel(2): both JAMMED where they are to be", x.duel(2), 0);
        Check.due("duel(1): both JAMMED where they are to be", x.duel(1), 61);
    }

    /** In TICK 1, so that n TURNS take 2 n TICKS. */
    private static FlapBoard slowDuel(int figure) {
        FlapBoard x = Boards.of(SLOWS);
        x.tick();
        x.aim(0, 9);
        x.aim(1, 9);
        x.aim(2, 9);
        x.aim(3, figure);
        return x;
    }

    // ---- 7 chances, lots

    private static void odds() {
        Check.promise(31, "Chances that k (0 .. 7) or more DRUMS SHOW their GOALS behind n (0 .. 20) TICKS, if each one that is not JAMMED jams now by p (0 .. 12) of 12, each by itself: 1.");
        FlapBoard x = Boards.aimed("9" + FLAPS.substring(1), 1, 1, 1, 1, 1, 1, 1);
        Check.share(x, "odds(0, 0, 0)", x.odds(0, 0, 0), 1, 1);
        Check.share(x, "odds(0, 20, 12)", x.odds(0, 20, 12), 1, 1);
        Check.share(x, "odds(1, 0, 0)", x.odds(1, 0, 0), 0, 1);
        Check.share(x, "odds(7, 1, 0)", x.odds(7, 1, 0), 1, 1);
        Check.share(x, "odds(7, 20, 0)", x.odds(7, 20, 0), 1, 1);
        Check.share(x, "odds(1, 20, 12)", x.odds(1, 20, 12), 0, 1);
        Check.share(x, "odds(7, 1, 1)", x.odds(7, 1, 1), 19487171, 35831808);
        Check.share(x, "odds(7, 1, 5)", x.odds(7, 1, 5), 823543, 35831808);
        Check.share(x, "odds(7, 1, 11)", x.odds(7, 1, 11), 1, 35831808);
        Check.share(x, "odds(1, 1, 11)", x.odds(1, 1, 11), 35831808 - 19487171, 35831808);
        Check.share(x, "odds(6, 1, 6)", x.odds(6, 1, 6), 1, 16);
        for (int i = 0; i < 7; i++) {
            x.jam(i);
        }
        Check.share(x, "odds(0, 20, 6), all JAMMED", x.odds(0, 20, 6), 1, 1);
        Check.share(x, "odds(1, 20, 6), all JAMMED", x.odds(1, 20, 6), 0, 1);
        x.jam(6);
        Check.share(x, "odds(1, 20, 1), one left", x.odds(1, 20, 1), 11, 12);
        FlapBoard two = Boards.of("9f00f00");
        Check.share(two, "odds(2, 0, 12), TOLD", two.odds(2, 0, 12), 1, 1);
        Check.share(two, "odds(3, 0, 0), two DRUMS", two.odds(3, 0, 0), 0, 1);
        Check.share(two, "odds(7, 20, 0), two DRUMS", two.odds(7, 20, 0), 0, 1);
        FlapBoard twenty = Boards.aimed("1f00f00f00", 9, 9, 2);
        Check.share(twenty, "odds(3, 19, 0) of 20 TURNS", twenty.odds(3, 19, 0), 0, 1);
        Check.share(twenty, "odds(3, 20, 0) of 20 TURNS", twenty.odds(3, 20, 0), 1, 1);
        twenty.aim(2, 3);
        Check.share(twenty, "odds(3, 20, 0) of 21 TURNS", twenty.odds(3, 20, 0), 0, 1);
    }

    private static void mid() {
        Check.promise(32, "The mean of how many do: 1.");
        FlapBoard x = Boards.aimed("9" + FLAPS.substring(1), 1, 1, 1, 1, 1, 1, 1);
        Check.share(x, "mid(0, 0)", x.mid(0, 0), 0, 1);
        Check.share(x, "mid(1, 0)", x.mid(1, 0), 7, 1);
        Check.share(x, "mid(20, 12)", x.mid(20, 12), 0, 1);
        Check.share(x, "mid(20, 1)", x.mid(20, 1), 77, 12);
        Check.share(x, "mid(1, 11)", x.mid(1, 11), 7, 12);
        Check.share(x, "mid(1, 6)", x.mid(1, 6), 7, 2);
        x.jam(0);
        Check.share(x, "mid(1, 6), one JAMMED", x.mid(1, 6), 3, 1);
        FlapBoard told = Boards.of(FLAPS);
        Check.share(told, "mid(0, 12), TOLD", told.mid(0, 12), 7, 1);
        FlapBoard twenty = Boards.aimed("1f00f00f00", 9, 9, 2);
        Check.share(twenty, "mid(19, 0) of 20 TURNS", twenty.mid(19, 0), 2, 1);
        Check.share(twenty, "mid(20, 0) of 20 TURNS", twenty.mid(20, 0), 3, 1);
        twenty.aim(2, 3);
        Check.share(twenty, "mid(20, 0) of 21 TURNS", twenty.mid(20, 0), 2, 1);
    }

    /** The seed whose first number is this one. */
    private static int seedOf(long lot) {
        BigInteger modulus = BigInteger.valueOf(2147483647);
        return BigInteger.valueOf(48271).modInverse(modulus).multiply(BigInteger.valueOf(lot)).mod(modulus).intValueExact();
    }

    private static FlapBoard drawn(String text, long lot) {
        FlapBoard x = Boards.of(text);
        Check.holds("lots(1, ..) of " + lot, x.lots(1, seedOf(lot)) >= 0);
        Check.due("DEEDS behind " + lot, x.count(2), 1);
        return x;
    }

    private static void lotsBySign() {
        Check.promise(33, "if it modulo 8 is 0, the DRUM is JAMMED, or freed; if it is 1 or 2, it is AIMED at the figure it by 64, cut, modulo 10 (perhaps as it is); else there is a TICK");
        for (int sign = 0; sign < 8; sign++) {
            // By 8 it is 24: the first of two; by 64 it is 3.
            FlapBoard x = drawn("9f00f00", 192 + sign);
            Check.due("JAMMED by " + sign, x.count(5), sign == 0 ? 1 : 0);
            Check.due("the GOAL by " + sign, Boards.fact(x, 0, 2), sign == 1 || sign == 2 ? 3 : 0);
            Check.due("the TICK by " + sign, x.count(1), sign >= 3 ? 1 : 0);
        }
        FlapBoard freed = Boards.of("9f00f00");
        freed.jam(0);
        freed.lots(1, seedOf(192));
        Check.due("freed", freed.count(5), 0);
        Check.promise(33, "DRUM it by 8, cut, modulo how many there are");
        for (int by8 = 1; by8 <= 15; by8++) {
            Check.due("of seven by " + by8, drawn(FLAPS, 8 * by8).count(5), 1 << by8 % 7);
            Check.due("of two by " + by8, drawn("9f00f00", 8 * by8).count(5), 1 << by8 % 2);
        }
        Check.due("of seven by 2147483640", drawn(FLAPS, 2147483640L).count(5), 1 << 1);
        Check.promise(33, "it is AIMED at the figure it by 64, cut, modulo 10 (perhaps as it is)");
        for (int by64 = 0; by64 <= 20; by64++) {
            // By 8 these are 8 and 8 by64 + 7: the first and the second of two.
            Check.due("by " + by64, Boards.fact(drawn("9f00f00", 64 * by64 + 1), 0, 2), by64 % 10);
            Check.due("by " + by64 + " and 58", Boards.fact(drawn("9f00f00", 64 * by64 + 58), 1, 2), by64 % 10);
        }
        Check.due("by 33554431", Boards.fact(drawn("9f00f00", 2147483641L), 1, 2), 1);
        Check.due("a TICK by the greatest", drawn("9f00f00", 2147483646L).count(1), 1);
    }

    private static void lotsByNumber() {
        Check.promise(33, "n (1 .. 20) DEEDS truly by LOTS of a seed: a number comes from the one ahead by 48271 times it modulo 2147483647, the first from the seed (1 .. 2147483646)");
        for (int seed : new int[] {1, 2, 2147483645, 2147483646}) {
            FlapBoard atOnce = Boards.of("3s01t12k23b34t45q56f67");
            FlapBoard oneByOne = Boards.of("3s01t12k23b34t45q56f67");
            int shown = 0;
            BigInteger lot = BigInteger.valueOf(seed);
            for (int i = 0; i < 20; i++) {
                shown = oneByOne.lots(1, lot.intValueExact());
                lot = lot.multiply(BigInteger.valueOf(48271)).mod(BigInteger.valueOf(2147483647));
            }
            Check.due("what THE BOARD SHOWS", atOnce.lots(20, seed), shown);
            Check.due("count(3)", atOnce.count(3), shown);
            Check.alike("DEEDS truly done", Story.ofState(atOnce), Story.ofState(oneByOne));
        }
        // 48271 leaves 7; 2147483647 less 48271 is 2147435376, which 8 divides: by 8 it is even.
        FlapBoard low = Boards.of("9f00f00");
        low.lots(1, 1);
        Check.due("a TICK by the lowest seed", low.count(1), 1);
        FlapBoard high = Boards.of("9f00f00");
        high.lots(1, 2147483646);
        Check.due("a jam by the highest seed", high.count(5), 1);
        Check.promise(33, "FULL: with n more there would be more than 40 DEEDS");
        for (int n = 1; n <= 20; n++) {
            FlapBoard x = Boards.of("2f00s00");
            Boards.ticks(x, 40 - n);
            Check.holds("lots(" + n + ", 5) with " + (40 - n), x.lots(n, 5) >= 0);
            Check.due("DEEDS", x.count(2), 40);
        }
    }

    // ---- 8 what is told

    private static void asked() {
        Check.promise(34, "What the latest lay(), at(), mean(), drum(), later(), ends(), passes(), least(), soonest(), test() that was not refused (nor answered NONE) told; 0 before.");
        Check.due("before", new FlapBoard().asked(), 0);
        FlapBoard x = Boards.aimed("1f00f00", 5, 3);
        Boards.fill(x, 0, 21, 40);
        Boards.fill(x, 1, 1);
        due(x, "lay", x.lay(0, 1, 40), 1, 40);
        due(x, "at", x.at(0, 0), 1, 21);
        due(x, "mean", x.mean(0), 1, 30);
        due(x, "drum", x.drum(1, 2), 1, 3);
        due(x, "later", x.later(7), 52, 7);
        due(x, "ends", x.ends(), 8, 8);
        due(x, "passes", x.passes(), 9, 53);
        due(x, "least", x.least(), 2, 5);
        due(x, "soonest", x.soonest(0), 0, 3);
        // By 1 it is a FLAP, a SLOW, a SKIP or a STICKY one: behind 2 SLOW ones and others are told apart.
        due(x, "test", x.test(0, 1), 2, 2);
        x.at(0, 0);
        String[] others = {"row", "tear", "copy", "text", "put", "fault", "board", "mark", "tick", "aim", "power", "jam",
            "undo", "keep", "on", "order", "kinds", "marks", "duel", "odds", "mid", "lots", "asked", "upper", "lower",
            "count", "finding", "findings", "digest"};
        int[][] arguments = {{5, 3}, {5}, {1, 0, 0, 1, 1}, {1, 5}, {1, 0, 9}, {1}, {0}, {0, 3}, {}, {0, 5}, {2}, {0},
            {1}, {0}, {0}, {1, 4}, {0, 1}, {0, 1}, {1}, {1, 1, 1}, {1, 1}, {2, 3}, {}, {}, {},
            {3}, {}, {1}, {}};
        for (int c = 0; c < others.length; c++) {
            Calls.call(x, others[c], arguments[c]);
            Check.due("asked() behind " + others[c], x.asked(), 21);
        }
        FlapBoard none = Boards.aimed("1f00f00", 5, 3);
        none.jam(0);
        Boards.fill(none, 0, 7);
        Boards.fill(none, 1, 50);
        none.at(0, 0);
        due(none, "ends NONE", none.ends(), NONE, 7);
        due(none, "least NONE", none.least(), NONE, 7);
        due(none, "soonest NONE", none.soonest(1), NONE, 7);
        due(none, "test NONE", none.test(0, 0), NONE, 7);
    }

    private static void upperAndLower() {
        Check.promise(35, "The upper number that was told last; 0 before.");
        FlapBoard x = Boards.aimed("9f00f00", 1, 1);
        Check.due("before", x.upper(), 0);
        Check.due("lower() before", x.lower(), 1);
        Check.share(x, "odds", x.odds(2, 1, 7), 25, 144);
        for (String name : new String[] {"odds", "mid"}) {
            Calls.call(x, name, name.equals("mid") ? new int[] {21, 0} : new int[] {8, 0, 0});
            Check.due("upper() behind one refused", x.upper(), 25);
            Check.due("lower() behind one refused", x.lower(), 144);
        }
        Check.promise(36, "Its lower number; 1 before.");
        Check.share(x, "mid", x.mid(1, 7), 5, 6);
        x.tick();
        x.ends();
        x.duel(2);
        x.board(0);
        Check.due("upper() stays", x.upper(), 5);
        Check.due("lower() stays", x.lower(), 6);
    }

    private static void count() {
        Check.promise(37, "0 DRUMS, 1 the TICK, 2 DEEDS, 3 what THE BOARD SHOWS (0 without DRUMS), 4 TURNS so far, 5 those that are JAMMED (bits), 6 those that SHOW their GOALS (bits), 7 the POWER (0 without DRUMS), 8 ROWS, 9 TEXTS that are there, 10 kept BOARDS, 11 SLOW ones (STICKY, too), 12 SKIP ones (QUICK, too).");
        countsDue(new FlapBoard(), 0, 0, 0, 0, 0, 0, 0, 0, 0, 0, 0, 0, 0);
        FlapBoard papers = new FlapBoard();
        for (int r = 0; r < 6; r++) {
            Check.due("ROWS", papers.count(8), r);
            papers.row(r, r);
            papers.row(r, 0);
        }
        for (int t = 0; t < 4; t++) {
            Check.due("TEXTS", papers.count(9), t);
            papers.text(t, t);
            papers.text(t, 0);
        }
        countsDue(papers, 0, 0, 0, 0, 0, 0, 0, 0, 6, 4, 0, 0, 0);
        countsDue(Boards.of("9f90f90f90f90f90f90f90"), 7, 0, 0, 9999999, 0, 0, 127, 9, 0, 1, 0, 0, 0);
        countsDue(Boards.of("1s00t00s00t00s00t00s00"), 7, 0, 0, 0, 0, 0, 127, 1, 0, 1, 0, 7, 0);
        countsDue(Boards.of("1k00q00k00q00k00q00q00"), 7, 0, 0, 0, 0, 0, 127, 1, 0, 1, 0, 0, 7);
        countsDue(Boards.of("1b00b00"), 2, 0, 0, 0, 0, 0, 3, 1, 0, 1, 0, 0, 0);
        FlapBoard x = Boards.aimed("9f00f00f00f00f00f00f00", 9, 9, 9, 9, 9, 9, 8);
        Boards.ticks(x, 9);
        for (int k = 0; k < 3; k++) {
            Check.due("kept BOARDS", x.count(10), k);
            x.keep(k);
            x.keep(k);
        }
        for (int i = 0; i < 7; i++) {
            x.jam(i);
            x.aim(i, 0);
        }
        Boards.ticks(x, 10);
        countsDue(x, 7, 19, 40, 9999998, 62, 127, 0, 9, 0, 1, 3, 0, 0);
    }

    private static void countsDue(FlapBoard x, int... want) {
        for (int what = 0; what < 13; what++) {
            Check.due("count(" + what + ")", x.count(what), want[what]);
        }
    }

    private static void findings() {
        Check.promise(38, "The latest FINDING (0 before any).");
        FlapBoard x = new FlapBoard();
        Check.due("before", x.finding(), 0);
        x.row(-1, 0);
        x.tick();
        Check.due("neither BAD nor STATE is one", x.finding(), 0);
        x.row(0, -1);
        Check.due("SIZE", x.finding(), 5);
        x.mean(0);
        Check.due("NOTHING", x.finding(), 1);
        x.row(0, 0);
        x.tear(6);
        x.tick();
        Check.due("it stays", x.finding(), 1);
        Check.promise(39, "How often a FINDING (1 .. 5) was answered.");
        FlapBoard often = new FlapBoard();
        for (int n = 1; n <= 250; n++) {
            often.row(0, -1);
            Check.due("findings(5)", often.findings(5), n);
        }
        for (int f = 1; f <= 4; f++) {
            Check.due("findings(" + f + ")", often.findings(f), 0);
        }
    }

    private static long h(long before, int... values) {
        long h = before;
        for (int v : values) {
            h = 31 * h + v;
        }
        return h;
    }

    private static int[] missing(int n) {
        int[] all = new int[n];
        java.util.Arrays.fill(all, -1);
        return all;
    }

    private static void digest() {
        Check.promise(40, "h = 17; then h = 31 h + v for each v: count() 0 to 12; of each DRUM drum() 0 to 6; of each kept BOARD how many DEEDS (-1: missing); of each ROW its size (-1: missing) and places, of each TEXT likewise.");
        Check.due("a new one", new FlapBoard().digest(), h(h(17, new int[13]), missing(13)));
        for (int r = 0; r < 6; r++) {
            FlapBoard x = new FlapBoard();
            x.row(r, 0);
            long counts = h(17, 0, 0, 0, 0, 0, 0, 0, 0, 1, 0, 0, 0, 0);
            long ahead = h(counts, missing(3 + r));
            Check.due("ROW " + r + " of none", x.digest(), h(h(ahead, 0), missing(9 - r)));
            Boards.fill(x, r, Integer.MAX_VALUE, Integer.MIN_VALUE);
            Check.due("ROW " + r, x.digest(), h(h(ahead, 2, Integer.MAX_VALUE, Integer.MIN_VALUE), missing(9 - r)));
            x.row(r, 40);
            x.lay(r, 39, -7);
            int[] forty = new int[40];
            forty[39] = -7;
            Check.due("ROW " + r + " of forty", x.digest(), h(h(h(ahead, 40), forty), missing(9 - r)));
            x.tear(r);
            Check.due("torn", x.digest(), new FlapBoard().digest());
        }
        for (int t = 0; t < 4; t++) {
            FlapBoard x = new FlapBoard();
            x.text(t, 0);
            long counts = h(17, 0, 0, 0, 0, 0, 0, 0, 0, 0, 1, 0, 0, 0);
            long ahead = h(counts, missing(9 + t));
            Check.due("TEXT " + t + " of none", x.digest(), h(h(ahead, 0), missing(3 - t)));
            x.text(t, 3);
            x.put(t, 1, 128);
            x.put(t, 2, 127);
            Check.due("TEXT " + t, x.digest(), h(h(ahead, 3, 32, -128, 127), missing(3 - t)));
        }
        keptDigest();
    }

    private static void keptDigest() {
        for (int k = 0; k < 3; k++) {
            FlapBoard x = Boards.of("9b01q99");
            long before = x.digest();
            x.keep(k);
            int[] kept = missing(3);
            kept[k] = 0;
            long h = h(17, 2, 0, 0, 9, 0, 0, 3, 9, 0, 1, 1, 0, 1);
            h = h(h, 3, 0, 0, 1, 0, 0, 9);
            h = h(h, 5, 9, 9, 9, 0, 0, 1);
            h = h(h(h, kept), missing(6));
            h = h(h(h, 7, '9', 'b', '0', '1', 'q', '9', '9'), missing(3));
            Check.due("a BOARD kept in " + k, x.digest(), h);
            Check.holds("none kept is told by another digest", before != h);
        }
    }

    /** Places that a ROW had when it was longer count no more. */
    private static void shorterThanBefore() {
        FlapBoard x = Boards.of("9f00f00");
        for (int r = 0; r < 6; r++) {
            x.row(r, 21);
            x.lay(r, 20, 10);
            x.lay(r, 5, -1);
            x.lay(r, 1, 100);
        }
        Check.promise(27, "(a ROW that was longer)");
        Check.due("row(0, 20)", x.row(0, 20), 20);
        Check.due("kinds", x.kinds(0, 0), 63);
        Check.due("marks", x.marks(0, 0), 1023);
        Check.due("test", x.test(0, 0), 1);
        Check.promise(25, "(a ROW that was longer)");
        Check.due("row(1, 5)", x.row(1, 5), 5);
        Check.due("soonest", x.soonest(1), 0);
        Check.due("order", x.order(1, 2), 0);
        Check.due("row(3, 1)", x.row(3, 1), 1);
        Check.due("soonest", x.soonest(3), 0);
        x.lay(3, 0, 6);
        Check.promise(7, "(a ROW that was longer)");
        due(x, "mean", x.mean(3), 1, 6);
        Check.promise(26, "(a ROW that was longer)");
        Check.due("order", x.order(3, 3), 6);
        Check.ints("ROW 3", Boards.row(x, 3), 0);
    }

    private static void calls512() {
        Check.terms("An object is used for at most 512 calls after it has been made");
        FlapBoard x = new FlapBoard();
        for (int n = 1; n <= 511; n++) {
            x.row(0, -1);
        }
        Check.due("the 512th call", x.findings(5), 511);
    }
}
