import java.util.List;

/** Promises 1 to 20 at their edges, sentence by sentence; what they refuse stands in RefusalsTests. */
public final class EdgesBoardTests {
    private static final int FINDING = -3, STATE = -4, FULL = -2, NONE = -9;
    private static final int NOTHING = 1;
    private static final int LOW = Integer.MIN_VALUE, HIGH = Integer.MAX_VALUE;
    private static final String SEVEN = "9f00f00f00f00f00f00f00";

    public static void main(String[] args) {
        newObject();
        row();
        layAndAt();
        tear();
        copy();
        mean();
        textAndPut();
        fault();
        board();
        drum();
        markOfSlowOnes();
        markOfSkipOnes();
        markOfBackAndQuickOnes();
        tick();
        aim();
        power();
        jam();
        undo();
        keepAndOn();
        Check.end("EdgesBoardTests");
    }

    private static int told(FlapBoard x, int answer) {
        Check.due("the call", answer, 1);
        return x.asked();
    }

    // ---- 1 rows, texts, boards

    private static void newObject() {
        Check.promise(1, "No ROWS, TEXTS, DRUMS.");
        FlapBoard x = new FlapBoard();
        for (int what = 0; what <= 12; what++) {
            Check.due("count(" + what + ")", x.count(what), 0);
        }
        Check.due("asked()", x.asked(), 0);
        Check.due("upper()", x.upper(), 0);
        Check.due("lower()", x.lower(), 1);
        Check.due("finding()", x.finding(), 0);
        for (int f = 1; f <= 5; f++) {
            Check.due("findings(" + f + ")", x.findings(f), 0);
        }
        Check.due("undo(0)", x.undo(0), 0);
        for (int k = 0; k < 3; k++) {
            Check.due("on(" + k + ")", x.on(k), FINDING);
        }
        FlapBoard busy = Scenes.busy();
        Check.due("another one is one of its own", new FlapBoard().digest(), x.digest());
        Check.due("DRUMS of the busy one", busy.count(0), 6);
    }

    private static void row() {
        Check.promise(2, "A ROW is there with n ints 0: n.");
        for (int r = 0; r < 6; r++) {
            FlapBoard x = new FlapBoard();
            x.row(r, 40);
            for (int i = 0; i < 40; i++) {
                x.lay(r, i, i + 1);
            }
            Check.due("row(" + r + ", 40) anew", x.row(r, 40), 40);
            Check.ints("forty 0s", Boards.row(x, r), new int[40]);
            x.lay(r, 0, 5);
            x.lay(r, 39, 6);
            Check.due("row(" + r + ", 1)", x.row(r, 1), 1);
            Check.ints("one 0", Boards.row(x, r), 0);
            Check.due("row(" + r + ", 0)", x.row(r, 0), 0);
            Check.ints("none", Boards.row(x, r));
            Check.due("a ROW of none is there", x.count(8), 1);
            Check.due("row(" + r + ", 40), longer again", x.row(r, 40), 40);
            Check.ints("forty 0s", Boards.row(x, r), new int[40]);
        }
    }

    private static void layAndAt() {
        for (int r = 0; r < 6; r++) {
            FlapBoard x = new FlapBoard();
            x.row(r, 40);
            for (int i : new int[] {0, 39}) {
                Check.promise(3, "Place i of a ROW is v: what it was, told by asked(): 1.");
                Check.due("it was 0", told(x, x.lay(r, i, LOW)), 0);
                Check.due("it was the lowest", told(x, x.lay(r, i, HIGH)), LOW);
                Check.due("it was the highest", told(x, x.lay(r, i, -1)), HIGH);
                Check.promise(4, "Place i of a ROW, told by asked(): 1.");
                Check.due("it is -1", told(x, x.at(r, i)), -1);
                Check.due("it is still -1", told(x, x.at(r, i)), -1);
            }
            Check.due("the place beside", told(x, x.at(r, 1)), 0);
            Check.due("the place beside", told(x, x.at(r, 38)), 0);
        }
    }

    private static void tear() {
        Check.promise(5, "A ROW is missing: 1.");
        for (int r = 0; r < 6; r++) {
            for (int n : new int[] {0, 1, 40}) {
                FlapBoard x = new FlapBoard();
                for (int other = 0; other < 6; other++) {
                    x.row(other, 1);
                }
                Boards.fill(x, r, new int[n]);
                if (n > 0) {
                    x.lay(r, n - 1, 7);
                }
                Check.due("tear(" + r + ")", x.tear(r), 1);
                Check.due("ROWS", x.count(8), 5);
                Check.due("it is missing", x.at(r, 0), FINDING);
                Check.due("finding()", x.finding(), NOTHING);
                x.row(r, n);
                Check.ints("anew it holds 0s", Boards.row(x, r), new int[n]);
            }
        }
    }

    private static void copy() {
        Check.promise(6, "n places of a ROW, from one on, come to those of another one (perhaps itself) from one on, as if taken ahead: 1.");
        copied(0, 0, 4, new int[] {1, 2, 3, 4, 5}, 1, 2, 3, 4, 5);
        copied(0, 1, 4, new int[] {1, 2, 3, 4, 5}, 1, 1, 2, 3, 4);
        copied(1, 0, 4, new int[] {1, 2, 3, 4, 5}, 2, 3, 4, 5, 5);
        copied(0, 4, 1, new int[] {1, 2, 3, 4, 5}, 1, 2, 3, 4, 1);
        copied(4, 0, 1, new int[] {1, 2, 3, 4, 5}, 5, 2, 3, 4, 5);
        copied(0, 2, 3, new int[] {1, 2, 3, 4, 5}, 1, 2, 1, 2, 3);
        copied(2, 0, 3, new int[] {1, 2, 3, 4, 5}, 3, 4, 5, 4, 5);
        copied(0, 0, 5, new int[] {1, 2, 3, 4, 5}, 1, 2, 3, 4, 5);
        copied(0, 0, 0, new int[] {1, 2, 3, 4, 5}, 1, 2, 3, 4, 5);
        copied(5, 0, 0, new int[] {1, 2, 3, 4, 5}, 1, 2, 3, 4, 5);
        copied(0, 5, 0, new int[] {1, 2, 3, 4, 5}, 1, 2, 3, 4, 5);
        copied(5, 5, 0, new int[] {1, 2, 3, 4, 5}, 1, 2, 3, 4, 5);
        copied(0, 0, 0, new int[0]);
        FlapBoard x = new FlapBoard();
        int[] forty = new int[40];
        for (int i = 0; i < 40; i++) {
            forty[i] = 100 + i;
        }
        Boards.fill(x, 0, forty);
        x.row(5, 40);
        Check.due("all forty", x.copy(0, 0, 5, 0, 40), 1);
        Check.ints("ROW 5", Boards.row(x, 5), forty);
        Check.ints("ROW 0", Boards.row(x, 0), forty);
        Boards.fill(x, 1, 7, 8, 9);
        Check.due("the last place to the last one", x.copy(0, 39, 1, 2, 1), 1);
        Check.ints("ROW 1 keeps its size", Boards.row(x, 1), 7, 8, 139);
    }

    private static void copied(int i, int j, int n, int[] row, int... want) {
        FlapBoard x = new FlapBoard();
        Boards.fill(x, 3, row);
        Check.due("copy(3, " + i + ", 3, " + j + ", " + n + ")", x.copy(3, i, 3, j, n), 1);
        Check.ints("ROW 3", Boards.row(x, 3), want);
    }

    private static void mean() {
        Check.promise(7, "The mean of a ROW's ints, cut, told by asked(): 1.");
        meanDue(7, 7);
        meanDue(LOW, LOW);
        meanDue(0, 0, 1);
        meanDue(0, 0, -1);
        meanDue(1, 1, 2);
        meanDue(-1, -1, -2);
        meanDue(0, 1, 1, 0);
        meanDue(0, LOW, HIGH);
        meanDue(1073741824, HIGH, 1);
        meanDue(-1073741824, LOW, 0);
        meanDue(715827882, HIGH, LOW, HIGH);
        int[] forty = new int[40];
        java.util.Arrays.fill(forty, HIGH);
        meanDue(HIGH, forty);
        forty[39] = HIGH - 1;
        meanDue(HIGH - 1, forty);
        java.util.Arrays.fill(forty, LOW);
        meanDue(LOW, forty);
        forty[0] = LOW + 1;
        meanDue(LOW + 1, forty);
    }

    private static void meanDue(int want, int... row) {
        FlapBoard x = new FlapBoard();
        Boards.fill(x, 2, row);
        Check.due("of " + row.length + " ints, the first " + row[0], told(x, x.mean(2)), want);
    }

    private static void textAndPut() {
        Check.promise(8, "A TEXT is there with n blanks: n.");
        for (int t = 0; t < 4; t++) {
            FlapBoard x = new FlapBoard();
            x.text(t, 60);
            for (int i = 0; i < 60; i++) {
                Check.due("a blank", x.put(t, i, 65), 1032);
            }
            Check.due("text(" + t + ", 60) anew", x.text(t, 60), 60);
            Check.due("the first one", x.put(t, 0, 65), 1032);
            Check.due("the last one", x.put(t, 59, 65), 1032);
            Check.due("text(" + t + ", 0)", x.text(t, 0), 0);
            Check.due("a TEXT of none is there", x.count(9), 1);
            Check.due("its FAULT", x.fault(t), 0);
            x.text(t, 60);
            Check.due("longer again: the last one", x.put(t, 59, 65), 1032);
        }
        Check.promise(9, "Byte i of a TEXT is v, cut to a byte: what it was, and 1000 more.");
        for (int v = -400; v <= 400; v++) {
            putDue(v, Math.floorMod(v + 128, 256) - 128);
        }
        putDue(LOW, 0);
        putDue(HIGH, -1);
        putDue(LOW + 127, 127);
        putDue(HIGH - 127, -128);
    }

    private static void putDue(int v, int want) {
        FlapBoard x = new FlapBoard();
        x.text(2, 3);
        Check.due("put(2, 2, " + v + ")", x.put(2, 2, v), 1032);
        Check.due("what it was", x.put(2, 2, 0), 1000 + want);
        Check.due("the one beside", x.put(2, 1, 0), 1032);
    }

    private static void fault() {
        Check.promise(10, "A FAULT of a TEXT; NONE: there is none.");
        for (int t = 0; t < 4; t++) {
            FlapBoard x = new FlapBoard();
            Boards.write(x, t, "9f99q99");
            Check.due("fault(" + t + ")", x.fault(t), NONE);
            // 313 cut to a byte is 57, a 9; 256 + 47 is no figure.
            x.put(t, 0, 313);
            Check.due("by a byte that was cut", x.fault(t), NONE);
            x.put(t, 6, 256 + 47);
            Check.due("by a byte that was cut", x.fault(t), 6);
            x.text(t, 60);
            Check.due("blanks alone", x.fault(t), 60);
            Check.due("finding()", x.finding(), 0);
            Check.due("no BOARD", x.count(0), 0);
        }
    }

    private static void board() {
        Check.promise(11, "A BOARD by a TEXT (anew: as told at first, no DEEDS; kept BOARDS go): how many DRUMS.");
        for (int n = 2; n <= 7; n++) {
            FlapBoard x = new FlapBoard();
            Boards.write(x, n % 4, "9" + "q57".repeat(n));
            Check.due("board of " + n, x.board(n % 4), n);
            Check.due("DRUMS", x.count(0), n);
            Check.due("POWER", x.count(7), 9);
        }
        FlapBoard x = Scenes.full();
        x.keep(1);
        x.text(3, 7);
        Check.due("board(3) of blanks: a FAULT", x.board(3), STATE);
        Check.due("what is kept stays", x.count(10), 3);
        Check.due("board(2) with 40 DEEDS, three kept", x.board(2), 6);
        FlapBoard first = Scenes.papers();
        first.board(2);
        first.text(3, 7);
        Check.alike("as at first", Story.ofState(x), Story.ofState(first));
        FlapBoard y = Boards.of(SEVEN);
        long before = y.count(3);
        Boards.write(y, 0, "1f11f11");
        Check.due("the BOARD does not follow its TEXT", y.count(3), before);
        Check.due("fewer DRUMS", y.board(0), 2);
        Check.due("the others are gone", y.drum(2, 1), -1);
        Check.due("THE BOARD SHOWS", y.count(3), 11);
        Check.due("POWER", y.count(7), 1);
    }

    private static void drum() {
        Check.promise(12, "Of a DRUM: 0 the KIND, 1 what it SHOWS, 2 its GOAL, 3 its MARK, 4 whether it is JAMMED (1, 0), 5 whether it is READY, 6 what it would SHOW, if it TURNED now (READY or not)");
        FlapBoard x = Boards.of("1f09f11f11f11f11f11q98");
        x.aim(6, 0);
        x.jam(6);
        factsDue(x, 0, 0, 0, 0, 9, 0, 0, 1);
        factsDue(x, 6, 5, 9, 0, 8, 1, 1, 0);
        x.tick();
        x.jam(6);
        x.aim(0, 9);
        factsDue(x, 0, 0, 0, 9, 9, 0, 1, 1);
        factsDue(x, 6, 5, 9, 0, 8, 0, 1, 0);
        FlapBoard two = Boards.of("1s00t99");
        two.aim(0, 5);
        two.aim(1, 5);
        factsDue(two, 0, 1, 0, 5, 0, 0, 1, 1);
        factsDue(two, 1, 4, 9, 5, 9, 0, 1, 0);
        two.tick();
        factsDue(two, 0, 1, 1, 5, 0, 0, 0, 2);
        factsDue(two, 1, 4, 9, 5, 9, 0, 0, 0);
    }

    private static void factsDue(FlapBoard x, int i, int... want) {
        for (int what = 0; what < 7; what++) {
            Check.due("drum(" + i + ", " + what + ")", told(x, x.drum(i, what)), want[what]);
        }
    }

    private static void markOfSlowOnes() {
        for (int ticks = 0; ticks <= 38; ticks++) {
            FlapBoard x = Boards.of("9s33t33t34t43");
            Boards.ticks(x, ticks);
            if (ticks % 2 == 1) {
                x.aim(3, 3);
                x.jam(3);
            }
            Check.promise(13, "a SLOW one (STICKY, too) in how many of the 8 TICKS from now on it would be READY, if it SHOWED another figure than its GOAL (what it SHOWS as now)");
            Check.due("a SLOW one in TICK " + ticks, x.mark(0, 1), 4);
            Check.due("a STICKY one at its MARK in TICK " + ticks, x.mark(1, 1), 2);
            Check.due("a STICKY one elsewhere in TICK " + ticks, x.mark(2, 1), 4);
            Check.due("a STICKY one ahead of its MARK in TICK " + ticks, x.mark(3, 1), 4);
            Check.promise(13, "a STICKY one in how many of those 8 it would not be READY where a SLOW one alike would");
            Check.due("at its MARK in TICK " + ticks, x.mark(1, 4), 2);
            Check.due("elsewhere in TICK " + ticks, x.mark(2, 4), 0);
            Check.due("ahead of its MARK in TICK " + ticks, x.mark(3, 4), 0);
        }
        Check.promise(13, "(what it SHOWS as now)");
        FlapBoard x = Boards.aimed("9t01f00", 2);
        Check.due("it SHOWS 0, its MARK is 1", x.mark(0, 1), 4);
        Check.due("it SHOWS 0, its MARK is 1", x.mark(0, 4), 0);
        x.tick();
        Check.due("it SHOWS its MARK", x.mark(0, 1), 2);
        Check.due("it SHOWS its MARK", x.mark(0, 4), 2);
        Boards.ticks(x, 4);
        Check.due("it SHOWS 2", x.mark(0, 1), 4);
        Check.due("it SHOWS 2", x.mark(0, 4), 0);
    }

    private static void markOfSkipOnes() {
        Check.promise(13, "a SKIP one (QUICK, too) how many figures it would never SHOW, turning on from 0 for ever (its GOAL as now)");
        for (int mark = 0; mark < 10; mark++) {
            for (int goal = 0; goal < 10; goal++) {
                // Of MARK 0 the 0 from which it turns on is SHOWN once.
                int never = mark == goal || mark == 0 ? 0 : 1;
                for (int shows : new int[] {0, 4, 9}) {
                    FlapBoard x = Boards.aimed("9k" + shows + mark + "f00", goal);
                    Check.due("a SKIP one of MARK " + mark + " aimed at " + goal, x.mark(0, 2), never);
                }
            }
        }
        quickDue(5, 8, 0, 2, 4, 7, 8);
        quickDue(0, 9, 0, 2, 4, 6, 8, 9);
        quickDue(9, 9, 0, 2, 4, 6, 8, 9, 1, 3, 5, 7);
        quickDue(1, 0, 0, 3, 5, 7, 9);
        quickDue(1, 1, 0, 1, 3, 5, 7, 9);
        quickDue(2, 5, 0, 3, 5, 7, 9, 1, 4);
        quickDue(2, 2, 0, 2, 4, 6, 8);
    }

    /** By its MARK and GOAL the figures that a QUICK one SHOWS, followed by hand till one comes again: the others it never does. */
    private static void quickDue(int mark, int goal, int... shown) {
        for (int shows = 0; shows < 10; shows++) {
            String drum = "q" + shows + mark;
            FlapBoard x = Boards.aimed("9" + drum + "f00", goal);
            Check.due(drum + " aimed at " + goal, x.mark(0, 2), 10 - shown.length);
        }
    }

    private static void markOfBackAndQuickOnes() {
        for (int shows = 0; shows < 10; shows++) {
            for (int goal = 0; goal < 10; goal++) {
                Check.promise(13, "a BACK one behind how many TURNS it would SHOW its GOAL");
                FlapBoard back = Boards.aimed("1b" + shows + "5f00", goal);
                Check.due("from " + shows + " to " + goal, back.mark(0, 3), back.ends());
            }
        }
        Check.due("from 0 to 9", Boards.aimed("1b00f00", 9).mark(0, 3), 1);
        Check.due("from 9 to 0", Boards.aimed("1b90f00", 0).mark(0, 3), 9);
        Check.due("there", Boards.of("1b00f00").mark(0, 3), 0);
        Check.promise(13, "a QUICK one how many figures on from what it SHOWS it would come by one TURN (modulo 10)");
        onDue("q05", 9, 2);
        onDue("q05", 1, 1);
        onDue("q05", 2, 2);
        onDue("q01", 9, 3);
        onDue("q01", 1, 1);
        onDue("q01", 2, 2);
        onDue("q02", 9, 3);
        onDue("q02", 1, 1);
        onDue("q02", 2, 2);
        onDue("q85", 0, 2);
        onDue("q95", 9, 2);
        onDue("q90", 5, 3);
        onDue("q80", 5, 3);
        onDue("q89", 5, 3);
        onDue("q80", 9, 1);
        onDue("q80", 0, 2);
    }

    private static void onDue(String drum, int goal, int want) {
        FlapBoard x = Boards.aimed("9" + drum + "f00", goal);
        Check.due(drum + " aimed at " + goal, x.mark(0, 5), want);
        x.jam(0);
        Check.due(drum + " aimed at " + goal + ", JAMMED", x.mark(0, 5), want);
    }

    // ---- 2 deeds

    private static void tick() {
        Check.promise(14, "A TICK: how many TURN.");
        FlapBoard x = Boards.of(SEVEN);
        Check.due("TOLD", x.tick(), 0);
        for (int i = 0; i < 7; i++) {
            x.aim(i, i + 1);
        }
        for (int n = 7; n >= 0; n--) {
            Check.due("so many are left", x.tick(), n);
        }
        Check.due("THE BOARD SHOWS", x.count(3), 1234567);
        Check.due("TICKS", x.count(1), 9);
        Check.due("TURNS", x.count(4), 28);
        FlapBoard y = Boards.of("9f00f00");
        for (int t = 1; t <= 40; t++) {
            Check.due("TICK " + t, y.tick(), 0);
            Check.due("count(1)", y.count(1), t);
        }
        Check.due("41 TICKS", y.tick(), FULL);
        FlapBoard z = Boards.aimed("9f00f00", 5, 5);
        z.jam(0);
        z.jam(1);
        Check.due("all JAMMED", z.tick(), 0);
        Check.due("a TICK all the same", z.count(1), 1);
    }

    private static void aim() {
        Check.promise(15, "AIMED at a figure: the GOAL it had.");
        FlapBoard x = Boards.of("9f00f90f00f00f00f00f50");
        Check.due("aim(0, 9)", x.aim(0, 9), 0);
        Check.due("aim(0, 0)", x.aim(0, 0), 9);
        Check.due("aim(6, 0)", x.aim(6, 0), 5);
        Check.due("aim(6, 9)", x.aim(6, 9), 0);
        Check.due("aim(1, 9): it has that", x.aim(1, 9), STATE);
        Check.due("DEEDS", x.count(2), 4);
        Check.due("the GOAL of 6", Boards.fact(x, 6, 2), 9);
        Check.due("aimed at once more what it SHOWS", x.aim(6, 5), 9);
        Check.due("that SHOW their GOALS", x.count(6), 127);
        FlapBoard y = Boards.of("9f00f00");
        y.jam(0);
        Check.due("a JAMMED one", y.aim(0, 9), 0);
        Check.due("the one beside", Boards.fact(y, 1, 2), 0);
    }

    private static void power() {
        Check.promise(16, "The POWER is n (1 .. 9): what it was.");
        FlapBoard x = Boards.of("5f00f00");
        int was = 5;
        for (int n : new int[] {1, 9, 1, 2, 8, 9, 5}) {
            Check.due("power(" + n + ")", x.power(n), was);
            Check.due("count(7)", x.count(7), n);
            Check.due("power(" + n + ") again", x.power(n), STATE);
            was = n;
        }
        Check.due("DEEDS", x.count(2), 7);
    }

    private static void jam() {
        Check.promise(17, "JAMMED, or freed: how many are JAMMED.");
        FlapBoard x = Boards.of(SEVEN);
        for (int i = 0; i < 7; i++) {
            Check.due("jam(" + i + ")", x.jam(i), i + 1);
        }
        Check.due("all", x.count(5), 127);
        for (int i = 0; i < 7; i++) {
            Check.due("jam(" + i + "), freed", x.jam(i), 6 - i);
            Check.due("whether it is JAMMED", Boards.fact(x, i, 4), 0);
        }
        Check.due("none", x.count(5), 0);
        Check.due("DEEDS", x.count(2), 14);
    }

    private static void undo() {
        Check.promise(18, "DEEDS from number n on are undone: how many.");
        FlapBoard x = Scenes.full();
        Check.due("undo(40)", x.undo(40), 0);
        Check.due("undo(39)", x.undo(39), 1);
        Check.due("undo(39) again", x.undo(39), 0);
        Check.due("undo(40): there is none such", x.undo(40), -1);
        Check.due("undo(1)", x.undo(1), 38);
        Check.due("one DEED is left", x.count(2), 1);
        Check.due("undo(0)", x.undo(0), 1);
        Check.due("undo(0) again", x.undo(0), 0);
        Check.due("undo(1)", x.undo(1), -1);
        Check.due("what is kept stays", x.count(10), 2);
        for (int n = 0; n <= 40; n++) {
            FlapBoard y = Scenes.full();
            Check.due("undo(" + n + ") of 40", y.undo(n), 40 - n);
            Check.due("DEEDS", y.count(2), n);
        }
        FlapBoard y = Boards.aimed("3f00f00", 5);
        undone(y, "tick");
        undone(y, "aim", 0, 0);
        undone(y, "aim", 1, 9);
        undone(y, "power", 9);
        undone(y, "jam", 0);
        undone(y, "lots", 1, 1);
        y.jam(0);
        undone(y, "jam", 0);
        y.undo(0);
        Check.due("the GOAL it had at first", Boards.fact(y, 0, 2), 0);
    }

    private static void undone(FlapBoard x, String name, int... arguments) {
        long before = x.digest();
        int deeds = x.count(2);
        Check.holds(name + " is done", Calls.call(x, name, arguments) >= 0 && x.count(2) == deeds + 1 && x.digest() != before);
        Check.due(name + " undone", x.undo(deeds), 1);
        Check.due("digest()", x.digest(), before);
    }

    private static void keepAndOn() {
        Check.promise(19, "The BOARD (as it is, DEEDS) is kept in a place (0 .. 2): how many DEEDS.");
        FlapBoard x = Boards.of("2f00s00");
        Check.due("keep(0) of none", x.keep(0), 0);
        Check.due("kept BOARDS", x.count(10), 1);
        x.aim(0, 9);
        x.power(1);
        x.jam(1);
        Check.due("keep(1)", x.keep(1), 3);
        Boards.ticks(x, 37);
        Check.due("keep(2) of 40", x.keep(2), 40);
        Check.due("kept BOARDS", x.count(10), 3);
        Check.due("to keep is no DEED", x.count(2), 40);
        Check.promise(20, "The BOARD is as it was kept: how many DEEDS.");
        long forty = x.digest();
        x.undo(0);
        Check.due("on(2)", x.on(2), 40);
        Check.due("digest()", x.digest(), forty);
        Check.due("tick() then", x.tick(), FULL);
        Check.due("on(0)", x.on(0), 0);
        Check.due("THE BOARD SHOWS", x.count(3), 0);
        Check.due("POWER", x.count(7), 2);
        Check.due("TURNS", x.count(4), 0);
        Check.due("on(1)", x.on(1), 3);
        Check.due("JAMMED", x.count(5), 2);
        Check.due("POWER", x.count(7), 1);
        Check.due("its DEEDS come along", x.undo(2), 1);
        Check.due("JAMMED", x.count(5), 0);
        Check.due("what is kept stays as it was", x.on(1), 3);
        x.undo(0);
        x.jam(0);
        x.aim(1, 5);
        x.tick();
        Check.due("on(1) from other DEEDS", x.on(1), 3);
        Check.due("JAMMED", x.count(5), 2);
        Check.due("TICKS", x.count(1), 0);
        Check.due("a GOAL", Boards.fact(x, 0, 2), 9);
        Check.due("a GOAL", Boards.fact(x, 1, 2), 0);
        Check.due("keep(2) once more: the other one goes", x.keep(2), 3);
        Check.due("kept BOARDS", x.count(10), 3);
        x.undo(0);
        Check.due("on(2)", x.on(2), 3);
        Check.alike("three DEEDS to go back by", List.of(x.undo(2), x.undo(1), x.undo(0)), List.of(1, 1, 1));
    }
}
