/** Promises 34 to 40: what is told. */
public final class ToldTests {
    private static final int BAD = -1, FINDING = -3;

    public static void main(String[] args) {
        asked();
        upperAndLower();
        count();
        findings();
        digest();
        Check.end("ToldTests");
    }

    private static void asked() {
        Check.promise(34, "asked");
        FlapBoard x = new FlapBoard();
        Check.due("before", x.asked(), 0);
        Boards.fill(x, 0, 7, 8);
        x.at(0, 1);
        Check.due("at", x.asked(), 8);
        x.lay(0, 1, 3);
        Check.due("lay", x.asked(), 8);
        x.mean(0);
        Check.due("mean", x.asked(), 5);
        Boards.write(x, 0, "1 f00 s10");
        x.board(0);
        x.at(0, 2);
        x.copy(0, 0, 0, 1, 1);
        x.count(3);
        Check.due("none of these tells", x.asked(), 5);
        x.drum(1, 1);
        Check.due("drum", x.asked(), 1);
        x.aim(0, 4);
        x.later(3);
        Check.due("later", x.asked(), 3);
        x.ends();
        Check.due("ends", x.asked(), 4);
        x.passes();
        Check.due("passes", x.asked(), 41);
        Boards.fill(x, 1, 21);
        x.soonest(1);
        Check.due("soonest", x.asked(), 2);
        x.order(1, 2);
        x.kinds(0, 3);
        x.marks(0, 3);
        x.mark(1, 1);
        x.duel(1);
        x.odds(1, 1, 1);
        x.mid(1, 1);
        x.keep(0);
        x.on(0);
        x.undo(1);
        x.digest();
        Check.due("none of these tells", x.asked(), 2);
        x.least();
        Check.due("least", x.asked(), 4);
        Boards.fill(x, 1, 1);
        x.test(0, 1);
        Check.due("test", x.asked(), 2);
        x.jam(0);
        x.drum(0, 4);
        x.drum(0, 2);
        Check.due("drum", x.asked(), 4);
        x.ends();
        x.least();
        x.later(99);
        x.drum(0, 9);
        Boards.fill(x, 1, 21);
        x.drum(0, 2);
        x.soonest(1);
        x.test(0, 0);
        Check.due("neither what is refused nor NONE tells", x.asked(), 4);
    }

    private static void upperAndLower() {
        FlapBoard x = new FlapBoard();
        Check.promise(35, "upper");
        Check.due("before", x.upper(), 0);
        Check.promise(36, "lower");
        Check.due("before", x.lower(), 1);
        x.odds(0, 0, 0);
        Check.due("refused", x.lower(), 1);
        Boards.write(x, 0, "9 f00 f00");
        x.board(0);
        x.aim(0, 1);
        x.odds(2, 1, 8);
        Check.promise(35, "upper");
        Check.due("odds", x.upper(), 1);
        Check.promise(36, "lower");
        Check.due("odds", x.lower(), 3);
        x.mid(1, 8);
        Check.promise(35, "upper");
        Check.due("mid", x.upper(), 4);
        Check.promise(36, "lower");
        Check.due("mid", x.lower(), 3);
        x.mid(1, 13);
        x.odds(1, 21, 1);
        Boards.fill(x, 0, 1, 2);
        x.mean(0);
        x.board(0);
        Check.promise(35, "upper");
        Check.due("stays", x.upper(), 4);
        Check.promise(36, "lower");
        Check.due("stays", x.lower(), 3);
    }

    private static void count() {
        Check.promise(37, "count");
        FlapBoard x = new FlapBoard();
        Check.due("count(-1)", x.count(-1), BAD);
        Check.due("count(13)", x.count(13), BAD);
        x.row(0, 0);
        x.row(3, 4);
        x.row(5, 4);
        x.text(2, 0);
        Boards.write(x, 3, "2 f01 s12 k23 b34 t45 q56 s67");
        x.board(3);
        x.aim(0, 5);
        x.aim(5, 9);
        x.aim(6, 9);
        x.jam(1);
        x.jam(6);
        x.tick();
        x.tick();
        x.power(7);
        x.keep(1);
        int[] want = {7, 2, 8, 2123496, 4, 0b1000010, 0b0111110, 7, 3, 2, 1, 3, 2};
        for (int what = 0; what < want.length; what++) {
            Check.due("count(" + what + ")", x.count(what), want[what]);
        }
    }

    private static void findings() {
        Check.promise(38, "finding");
        FlapBoard x = new FlapBoard();
        Check.due("before", x.finding(), 0);
        x.row(9, 0);
        Check.due("BAD is none", x.finding(), 0);
        x.at(0, 0);
        Check.due("NOTHING", x.finding(), 1);
        x.row(0, 0);
        Check.due("it stays", x.finding(), 1);
        x.at(0, 0);
        Check.due("BEYOND", x.finding(), 2);
        Boards.write(x, 0, "9 f00 f00");
        x.board(0);
        x.mark(0, 1);
        Check.due("UNLIKE", x.finding(), 3);
        x.mean(0);
        Check.due("NOUGHT", x.finding(), 4);
        x.row(0, -1);
        Check.due("SIZE", x.finding(), 5);
        x.on(0);
        Check.due("NOTHING again", x.finding(), 1);
        Check.promise(39, "findings");
        int[] want = {2, 1, 1, 1, 1};
        for (int f = 1; f <= 5; f++) {
            Check.due("findings(" + f + ")", x.findings(f), want[f - 1]);
        }
        Check.due("findings(0)", x.findings(0), BAD);
        Check.due("findings(6)", x.findings(6), BAD);
        Check.due("findings(-1)", x.findings(-1), BAD);
        Check.due("and once more", x.mean(0), FINDING);
        Check.due("findings(4)", x.findings(4), 2);
    }

    private static long h(long before, int... values) {
        long h = before;
        for (int v : values) {
            h = 31 * h + v;
        }
        return h;
    }

    private static void digest() {
        Check.promise(40, "digest");
        int[] noughts = new int[13];
        int[] missing = {-1, -1, -1, -1, -1, -1, -1, -1, -1, -1, -1, -1, -1};
        Check.due("a new one", new FlapBoard().digest(), h(h(17, noughts), missing));
        FlapBoard x = Boards.of("2 s01 q12");
        Boards.fill(x, 1, 5, Integer.MIN_VALUE);
        x.row(4, 0);
        x.text(3, 1);
        x.put(3, 0, 200);
        x.text(1, 0);
        x.aim(0, 3);
        x.tick();
        x.keep(1);
        x.jam(1);
        long h = h(17, 2, 1, 3, 11, 1, 2, 2, 2, 2, 3, 1, 1, 1);
        h = h(h, 1, 1, 3, 1, 0, 0, 2);
        h = h(h, 5, 1, 1, 2, 1, 0, 4);
        h = h(h, -1, 2, -1);
        h = h(h, -1, 2, 5, Integer.MIN_VALUE, -1, -1, 0, -1);
        h = h(h, 9, '2', ' ', 's', '0', '1', ' ', 'q', '1', '2');
        h = h(h, 0, -1, 1, (byte) 200);
        Check.due("all there is", x.digest(), h);
        x.drum(0, 2);
        x.digest();
        Check.due("it leaves asked()", x.asked(), 3);
    }
}
