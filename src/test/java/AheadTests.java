/** Promises 21 to 26: what comes, what to do. */
public final class AheadTests {
    private static final int BAD = -1, FINDING = -3, STATE = -4, NONE = -9;
    private static final int NOTHING = 1, UNLIKE = 3, SIZE = 5;

    public static void main(String[] args) {
        later();
        ends();
        passes();
        least();
        soonest();
        order();
        Check.end("AheadTests");
    }

    private static void later() {
        Check.promise(21, "later");
        FlapBoard none = new FlapBoard();
        Check.due("without drums", none.later(0), STATE);
        Check.due("without drums, but bad", none.later(61), BAD);
        FlapBoard x = Boards.aimed("1 f00 s00", 2, 2);
        long before = x.digest();
        int[] shows = {0, 10, 20, 21, 21, 22, 22};
        int[] turns = {0, 1, 2, 3, 3, 4, 4};
        for (int n = 0; n < shows.length; n++) {
            Check.due("later(" + n + ")", x.later(n), shows[n]);
            Check.due("asked() of later(" + n + ")", x.asked(), turns[n]);
        }
        Check.due("later(60)", x.later(60), 22);
        Check.due("later(-1)", x.later(-1), BAD);
        Check.due("later(61)", x.later(61), BAD);
        Check.due("asked() stays", x.asked(), 4);
        Check.due("aside: nothing is done", x.digest(), before);
        x.tick();
        Check.due("later(2) from tick 1", x.later(2), 21);
        Check.due("turns in them alone", x.asked(), 2);
    }

    private static void ends() {
        Check.promise(22, "ends");
        Check.due("without drums", new FlapBoard().ends(), STATE);
        FlapBoard x = Boards.of("1 f00 s00");
        Check.due("told already", x.ends(), 0);
        Check.due("asked()", x.asked(), 0);
        x.aim(0, 2);
        x.aim(1, 2);
        Check.due("ends()", x.ends(), 5);
        Check.due("asked()", x.asked(), 4);
        x.jam(1);
        Check.due("a jammed one never comes right", x.ends(), NONE);
        Check.due("asked() stays", x.asked(), 4);
        x.aim(1, 0);
        Check.due("but it may be right as it is", x.ends(), 2);
        String sixty = "1 f00 f00 f00 f00 f00 f00 f00";
        Check.due("60 ticks", Boards.aimed(sixty, 9, 9, 9, 9, 9, 9, 6).ends(), 60);
        Check.due("61 ticks", Boards.aimed(sixty, 9, 9, 9, 9, 9, 9, 7).ends(), NONE);
    }

    private static void passes() {
        Check.promise(23, "passes");
        Check.due("without drums", new FlapBoard().passes(), STATE);
        FlapBoard x = Boards.of("1 f00 s00");
        Check.due("told already", x.passes(), 1);
        Check.due("asked()", x.asked(), 0);
        x.aim(0, 2);
        x.aim(1, 2);
        Check.due("0 10 20 21 22", x.passes(), 5);
        Check.due("asked()", x.asked(), 22);
        FlapBoard y = Boards.aimed("9 f90 b00", 1, 8);
        Check.due("90 09 18", y.passes(), 3);
        Check.due("the greatest is the first", y.asked(), 90);
        y.jam(0);
        Check.due("90 99 98, and on for 60 ticks", y.passes(), 3);
        Check.due("asked()", y.asked(), 99);
        FlapBoard z = Boards.aimed("1 f00 f00 f00 f00 f00 f00 f00", 9, 9, 9, 9, 9, 9, 7);
        Check.due("60 ticks at most", z.passes(), 61);
        Check.due("asked()", z.asked(), 9999996);
    }

    private static void least() {
        Check.promise(24, "least");
        Check.due("without drums", new FlapBoard().least(), STATE);
        FlapBoard x = Boards.of("5 f00 f00 f00");
        Check.due("told already", x.least(), 1);
        Check.due("asked()", x.asked(), 0);
        x.aim(0, 4);
        x.aim(1, 2);
        x.aim(2, 2);
        Check.due("eight turns in four ticks", x.least(), 2);
        Check.due("asked()", x.asked(), 4);
        FlapBoard y = Boards.aimed("5 f00 f00 f00", 2, 2, 4);
        Check.due("the last one must not wait", y.least(), 3);
        FlapBoard z = Boards.aimed("5 f00 f00 s00", 2, 2, 4);
        Check.due("the lower ones go ahead of a slow one", z.least(), 3);
        Check.due("asked()", z.asked(), 7);
        FlapBoard w = Boards.aimed("1 s00 f00 f00", 4, 1, 1);
        Check.due("turns between a slow one's", w.least(), 1);
        Check.due("asked()", w.asked(), 7);
        Check.due("the power stays", w.count(7), 1);
        w.jam(2);
        Check.due("a jammed one", w.least(), NONE);
        Check.due("asked() stays", w.asked(), 7);
    }

    private static void refusals(String call, boolean sorting) {
        FlapBoard none = new FlapBoard();
        Check.due(call + " without drums", ask(none, 0, sorting), STATE);
        Check.due(call + " without drums, but bad", ask(none, 6, sorting), BAD);
        FlapBoard x = Boards.of("5 f00 f00");
        Check.due(call + " of row -1", ask(x, -1, sorting), BAD);
        found(x, call + " of a missing row", ask(x, 0, sorting), NOTHING);
        x.row(0, 0);
        found(x, call + " of none", ask(x, 0, sorting), SIZE);
        Boards.fill(x, 0, -1, 1, 1, 1, 1, 1);
        found(x, call + " of six", ask(x, 0, sorting), SIZE);
        Boards.fill(x, 0, 1, -1);
        found(x, call + " of -1", ask(x, 0, sorting), UNLIKE);
        Boards.fill(x, 0, 1, 100);
        found(x, call + " of three figures", ask(x, 0, sorting), UNLIKE);
        Boards.fill(x, 0, Integer.MAX_VALUE);
        found(x, call + " of the highest", ask(x, 0, sorting), UNLIKE);
        Boards.fill(x, 0, 99);
        Check.holds(call + " of 99", ask(x, 0, sorting) >= 0);
        FlapBoard seven = Boards.of("5 f00 f00 f00 f00 f00 f00 f00");
        Boards.fill(seven, 0, 9999999);
        Check.holds(call + " of seven figures", ask(seven, 0, sorting) >= 0);
        Boards.fill(seven, 0, 10000000);
        found(seven, call + " of eight figures", ask(seven, 0, sorting), UNLIKE);
    }

    private static int ask(FlapBoard x, int r, boolean sorting) {
        return sorting ? x.order(r, 5) : x.soonest(r);
    }

    private static void found(FlapBoard x, String call, int answer, int finding) {
        Check.due(call, answer, FINDING);
        Check.due("finding() behind " + call, x.finding(), finding);
    }

    private static void soonest() {
        Check.promise(25, "soonest");
        refusals("soonest", false);
        FlapBoard x = Boards.of("1 f00 f00 b00");
        Boards.fill(x, 0, 30, 5, 990, 40);
        Check.due("30 takes 3, 5 takes 5, 990 takes 18, 40 takes 4", x.soonest(0), 0);
        Check.due("asked()", x.asked(), 3);
        Boards.fill(x, 0, 5, 200, 9, 100);
        Check.due("9 takes 1, 100 takes 1: the first", x.soonest(0), 2);
        Check.due("asked()", x.asked(), 1);
        Boards.fill(x, 0, 5, 0, 0);
        Check.due("0 is there", x.soonest(0), 1);
        Check.due("asked()", x.asked(), 0);
        x.aim(0, 7);
        Check.due("what was aimed at is left", x.soonest(0), 1);
        x.jam(2);
        Boards.fill(x, 0, 9, 990);
        Check.due("a jammed one stays", x.soonest(0), 1);
        Check.due("asked()", x.asked(), 18);
        Boards.fill(x, 0, 9, 991);
        x.drum(0, 2);
        Check.due("none", x.soonest(0), NONE);
        Check.due("asked() stays", x.asked(), 7);
        Check.due("aside", Boards.fact(x, 0, 2), 7);
        FlapBoard y = Boards.of("1 f00 f00 f00 f00 f00 f00 f00");
        Boards.fill(y, 0, 9999997, 9999996);
        Check.due("61 are too many, 60 are not", y.soonest(0), 1);
        Check.due("asked()", y.asked(), 60);
        Boards.fill(y, 0, 9999997);
        Check.due("61 are too many", y.soonest(0), NONE);
    }

    private static void order() {
        Check.promise(26, "order");
        refusals("order", true);
        Check.due("order(0, 6)", Boards.of("5 f00 f00").order(0, 6), BAD);
        Check.due("order(0, -1)", Boards.of("5 f00 f00").order(0, -1), BAD);
        FlapBoard x = Boards.of("9 f00 f00");
        Boards.fill(x, 0, 30, 10, 20);
        long before = x.digest();
        Check.due("10 20 30", x.order(0, 3), 3);
        Check.ints("the order", Boards.row(x, 3), 1, 2, 0);
        x.tear(3);
        Check.due("aside", x.digest(), before);
        Boards.fill(x, 0, 20, 20, 0);
        Check.due("0 20 20", x.order(0, 0), 2);
        Check.ints("of several the first, into the same row", Boards.row(x, 0), 2, 0, 1);
        Boards.fill(x, 0, 11, 11, 11, 11, 11);
        Boards.fill(x, 1, 1, 2, 3, 4, 5, 6, 7);
        Check.due("all alike", x.order(0, 1), 1);
        Check.ints("places rising, the row anew", Boards.row(x, 1), 0, 1, 2, 3, 4);
        FlapBoard y = Boards.of("9 s00 f00");
        Boards.fill(y, 0, 10, 20);
        Check.due("a slow one: behind 10 it is tick 1", y.order(0, 1), 3);
        y.jam(0);
        Boards.fill(y, 0, 1, 11);
        Boards.fill(y, 1, 8, 9);
        Check.due("none", y.order(0, 1), NONE);
        Check.ints("the row stays", Boards.row(y, 1), 8, 9);
        FlapBoard z = Boards.of("1 f00 f00 f00 f00 f00 f00 f00");
        Boards.fill(z, 0, 9999996, 8888888);
        Check.due("56, then 14 more: each has 60 of its own", z.order(0, 1), 70);
        Check.ints("the order", Boards.row(z, 1), 1, 0);
        Boards.fill(z, 0, 9999999, 1111111);
        Check.due("63 at once are too many, behind 7 they are 56", z.order(0, 1), 63);
        Check.ints("the order", Boards.row(z, 1), 1, 0);
    }
}
