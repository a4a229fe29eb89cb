import java.util.function.Supplier;

/** The sentences under 'Terms', each at its edges: the last value inside, the first one outside. */
public final class TermsTests {
    private static final int FINDING = -3, NONE = -9;
    private static final int NOTHING = 1, BEYOND = 2, UNLIKE = 3, NOUGHT = 4, SIZE = 5;
    private static final int[] LETTERS = {102, 115, 107, 98, 116, 113};
    private static final String SEVEN = "1 f00 f00 f00 f00 f00 f00 f00";

    public static void main(String[] args) {
        orderOfRefusals();
        findings();
        lowestTerms();
        sets();
        rowsAndTexts();
        blanks();
        signs();
        drumsOfAText();
        endsOfAText();
        figuresOfAText();
        kindsAndLetters();
        everyTurn();
        turnsAtTheWrap();
        readyByTicks();
        slowAndStickyOnTheirWay();
        atFirst();
        powerForSoMany();
        turnsCounted();
        theBoardShows();
        told();
        fortyDeeds();
        aside();
        beyondTick99();
        showedFromNowOn();
        Check.end("TermsTests");
    }

    // ---- refusals

    private static void orderOfRefusals() {
        Check.terms("Refused is, the first of these that fits, in this order");
        Refused.bad(Scenes::full, "aim", 0, 10); // and FULL
        Refused.bad(Scenes::empty, "later", 61); // and STATE
        Refused.bad(Scenes::papers, "row", 6, -1); // and SIZE
        Refused.state(Scenes::papers, "soonest", 5); // and NOTHING
        Refused.state(Scenes::papers, "order", 1, 0); // and SIZE
    }

    private static void findings() {
        Check.terms("1 NOTHING (a ROW, a TEXT, a kept BOARD that is missing)");
        Refused.found(NOTHING, Scenes::busy, "at", 5, 0);
        Refused.found(NOTHING, Scenes::busy, "fault", 3);
        Refused.found(NOTHING, Scenes::busy, "on", 1);
        Check.terms("2 BEYOND (a place that there is not)");
        Refused.found(BEYOND, Scenes::busy, "at", 0, 3);
        Refused.found(BEYOND, Scenes::busy, "put", 0, 5, 0);
        Check.terms("3 UNLIKE (a DRUM of another KIND; a number that is none)");
        Refused.found(UNLIKE, Scenes::busy, "mark", 0, 1);
        Refused.found(UNLIKE, () -> {
            FlapBoard x = Scenes.busy();
            Boards.fill(x, 0, 10);
            return x;
        }, "kinds", 0, 0);
        Check.terms("4 NOUGHT (shared among none)");
        Refused.found(NOUGHT, Scenes::busy, "mean", 1);
        Check.terms("5 SIZE (fewer than none; not as many as due)");
        Refused.found(SIZE, Scenes::busy, "row", 1, -1);
        Refused.found(SIZE, Scenes::busy, "text", 1, -1);
        Refused.found(SIZE, Scenes::busy, "copy", 0, 0, 0, 0, -1);
        Refused.found(SIZE, Scenes::busy, "soonest", 2);
        Refused.found(SIZE, Scenes::busy, "kinds", 0, 2);
    }

    private static void lowestTerms() {
        Check.terms("Chances, means are told by upper(), lower(), in lowest terms, the lower number above 0 (0 by 1).");
        FlapBoard x = Boards.aimed("9 f00 f00", 1, 1);
        Check.share(x, "odds(2, 1, 12)", x.odds(2, 1, 12), 0, 1);
        Check.share(x, "odds(2, 1, 0)", x.odds(2, 1, 0), 1, 1);
        Check.share(x, "odds(2, 1, 6)", x.odds(2, 1, 6), 1, 4);
        Check.share(x, "odds(2, 1, 11)", x.odds(2, 1, 11), 1, 144);
        Check.share(x, "mid(1, 12)", x.mid(1, 12), 0, 1);
        Check.share(x, "mid(1, 0)", x.mid(1, 0), 2, 1);
        Check.share(x, "mid(1, 6)", x.mid(1, 6), 1, 1);
        Check.share(x, "mid(1, 9)", x.mid(1, 9), 1, 2);
        Check.share(x, "mid(1, 11)", x.mid(1, 11), 1, 6);
    }

    private static void sets() {
        Check.terms("Sets (of DRUMS, KINDS, figures) are told by bits.");
        for (int i = 0; i < 7; i++) {
            FlapBoard x = Boards.of(SEVEN);
            x.jam(i);
            x.aim(i, 1);
            Check.due("JAMMED: " + i + " alone", x.count(5), 1 << i);
            Check.due("that SHOW their GOALS: all but " + i, x.count(6), 127 - (1 << i));
        }
        FlapBoard k = Boards.aimed("9 k50 f00", 4);
        for (int mark = 0; mark < 10; mark++) {
            // A SKIP one that comes two figures on has its MARK between.
            int from = (mark + 9) % 10;
            FlapBoard x = Boards.aimed("9 k" + from + "5 f00", (mark + 5) % 10);
            Boards.fill(x, 0, (mark + 1) % 10);
            Check.due("MARK " + mark + " alone", x.marks(0, 0), 1 << mark);
        }
        Boards.fill(k, 0, 4);
        Check.due("KIND 3 alone", k.kinds(0, 0), 8);
        Boards.fill(k, 0, 7);
        Check.due("KIND 5 alone", k.kinds(0, 0), 32);
        Boards.fill(k, 0, 9);
        Check.due("no KIND", k.kinds(0, 0), 0);
        Boards.fill(k, 1, 0);
        Check.due("all KINDS", k.kinds(1, 1), 63);
        Check.due("all MARKS", k.marks(1, 1), 1023);
    }

    // ---- rows, texts

    private static void rowsAndTexts() {
        Check.terms("ROWS 0 .. 5 are rows of 0 to 40 ints");
        for (int r = 0; r < 6; r++) {
            for (int n = 0; n <= 40; n++) {
                FlapBoard x = new FlapBoard();
                Check.due("row(" + r + ", " + n + ")", x.row(r, n), n);
                Check.due("its last place", x.at(r, n - 1), n == 0 ? FINDING : 1);
                Check.due("no place more", x.at(r, n), FINDING);
                Check.due("finding()", x.finding(), BEYOND);
            }
        }
        FlapBoard rows = new FlapBoard();
        for (int r = 0; r < 6; r++) {
            Boards.fill(rows, r, r, 10 + r, 20 + r);
        }
        for (int r = 0; r < 6; r++) {
            Check.ints("ROW " + r + " is one of its own", Boards.row(rows, r), r, 10 + r, 20 + r);
        }
        Check.terms("TEXTS 0 .. 3 rows of 0 to 60 bytes");
        for (int t = 0; t < 4; t++) {
            for (int n = 0; n <= 60; n++) {
                FlapBoard x = new FlapBoard();
                Check.due("text(" + t + ", " + n + ")", x.text(t, n), n);
                Check.due("its last place", x.put(t, n - 1, 65), n == 0 ? FINDING : 1032);
                Check.due("no place more", x.put(t, n, 65), FINDING);
                Check.due("finding()", x.finding(), BEYOND);
            }
        }
        FlapBoard texts = new FlapBoard();
        for (int t = 0; t < 4; t++) {
            texts.text(t, 60);
            texts.put(t, 59, 65 + t);
        }
        for (int t = 0; t < 4; t++) {
            Check.due("TEXT " + t + " is one of its own", texts.put(t, 59, 0), 1065 + t);
        }
        Check.terms("or missing (at first)");
        for (int r = 0; r < 6; r++) {
            Refused.found(NOTHING, Scenes::empty, "at", r, 0);
        }
        for (int t = 0; t < 4; t++) {
            Refused.found(NOTHING, Scenes::empty, "put", t, 0, 65);
        }
    }

    // ---- a board's text

    private static void faultDue(String text, int want) {
        Check.due("fault of '" + text + "'", Boards.faultOf(text), want);
    }

    private static void blanks() {
        Check.terms("blanks (32) ahead, between, behind as many as wanted, none within items");
        faultDue("5f12s34", NONE);
        for (int n = 0; n <= 53; n++) {
            String blanks = " ".repeat(n);
            faultDue(blanks + "5f12s34", NONE);
            faultDue("5" + blanks + "f12s34", NONE);
            faultDue("5f12" + blanks + "s34", NONE);
            faultDue("5f12s34" + blanks, NONE);
            if (n > 0) {
                faultDue("5f" + blanks + "12s34", 2);
                faultDue("5f1" + blanks + "2s34", 3);
                faultDue("5f12s" + blanks + "34", 5);
                faultDue("5f12s3" + blanks + "4", 6);
            }
        }
    }

    /** At each place of a BOARD's TEXT every byte there is: what may stand there, where it can't go on else. */
    private static void signs() {
        Check.terms("(a letter, a figure that is none such, an eighth DRUM: its place");
        String text = "5f12s34";
        for (int b = -128; b < 128; b++) {
            boolean figure = b >= '0' && b <= '9';
            boolean letter = b > 0 && "fskbtq".indexOf(b) >= 0;
            signDue(text, 0, b, figure && b != '0' ? NONE : b == ' ' ? 1 : 0);
            signDue(text, 1, b, letter ? NONE : b == ' ' ? 2 : 1);
            signDue(text, 2, b, figure ? NONE : 2);
            signDue(text, 3, b, figure ? NONE : 3);
            signDue(text, 4, b, letter ? NONE : b == ' ' ? 5 : 4);
            signDue(text, 5, b, figure ? NONE : 5);
            signDue(text, 6, b, figure ? NONE : 6);
            signDue(text + " ", 7, b, b == ' ' ? NONE : letter ? 8 : 7);
            signDue("5f00f00f00f00f00f00f00 ", 22, b, b == ' ' ? NONE : 22);
        }
    }

    private static void signDue(String text, int place, int b, int want) {
        FlapBoard x = new FlapBoard();
        Boards.write(x, 1, text);
        x.put(1, place, b);
        Check.due("fault of '" + text + "' with byte " + b + " at " + place, x.fault(1), want);
        Check.due("whether it makes a BOARD", x.board(1) > 0 ? 1 : 0, want == NONE ? 1 : 0);
    }

    private static void drumsOfAText() {
        Check.terms("DRUMS (2 to 7; 0, 1, .. as they come, from the left)");
        for (int n = 0; n <= 12; n++) {
            String close = "5" + "f12".repeat(n);
            faultDue(close, n < 2 ? close.length() : n <= 7 ? NONE : 22);
            String wide = " 5" + " s34".repeat(n) + " ";
            faultDue(wide, n < 2 ? wide.length() : n <= 7 ? NONE : 31);
        }
        FlapBoard x = Boards.of("3f01s12k23b34t45q56f67");
        for (int i = 0; i < 7; i++) {
            Check.due("the KIND of " + i, Boards.fact(x, i, 0), i % 6);
            Check.due("what " + i + " SHOWS", Boards.fact(x, i, 1), i);
            Check.due("the MARK of " + i, Boards.fact(x, i, 3), i + 1);
        }
        String sixty = "1f00f00f00f00f00f00f00" + " ".repeat(37);
        faultDue(sixty + " ", NONE);
        faultDue(sixty + "f", 59);
        faultDue("1" + " ".repeat(53) + "f00f00", NONE);
        faultDue("1" + " ".repeat(53) + "f00f0x", 59);
    }

    private static void endsOfAText() {
        Check.terms("the TEXT's size, if its end comes too early, or there are less than 2 DRUMS, or blanks alone)");
        String text = "  5 f12  s34 ";
        for (int n = 0; n <= text.length(); n++) {
            faultDue(text.substring(0, n), n < 12 ? n : NONE);
        }
        String seven = "5f12f12f12f12f12f12f12";
        for (int n = 0; n <= seven.length(); n++) {
            faultDue(seven.substring(0, n), n >= 7 && n % 3 == 1 ? NONE : n);
        }
        for (int n = 0; n <= 60; n++) {
            faultDue(" ".repeat(n), n);
        }
        faultDue(" ".repeat(59) + "1", 60);
        faultDue(" ".repeat(59) + "0", 59);
        faultDue("1" + " ".repeat(54) + "f00f0", 60);
    }

    private static void figuresOfAText() {
        Check.terms("A BOARD (without DRUMS at first) is a TEXT");
        Check.due("DRUMS, though there is a TEXT of some", Scenes.papers().count(0), 0);
        Check.terms("the POWER (a figure 1 .. 9)");
        for (int p = 1; p <= 9; p++) {
            Check.due("the POWER", Boards.of(p + "f00f00").count(7), p);
            faultDue(p + "0f00f00", 1);
        }
        faultDue("0f00f00", 0);
        Check.terms("each a letter, the figure that it SHOWS (0 .. 9), its MARK (0 .. 9; one figure each)");
        for (int f = 0; f <= 9; f++) {
            FlapBoard x = Boards.of("1f" + f + (9 - f) + "f00");
            Check.due("what it SHOWS", Boards.fact(x, 0, 1), f);
            Check.due("its MARK", Boards.fact(x, 0, 3), 9 - f);
            faultDue("1f00" + f + "f00", 4);
            faultDue("1f0f0" + f, 3);
            faultDue("1" + f + "f00f00", 1);
        }
        faultDue("1ff00f00", 2);
        faultDue("1f-1f00", 2);
        faultDue("1f0-1f00", 3);
    }

    // ---- kinds of drums

    private static void kindsAndLetters() {
        Check.terms("KINDS of DRUMS and letters");
        for (int kind = 0; kind < 6; kind++) {
            FlapBoard x = new FlapBoard();
            Boards.write(x, 0, "1 x00 x00");
            x.put(0, 2, LETTERS[kind]);
            x.put(0, 6, LETTERS[5 - kind]);
            Check.due("board(0)", x.board(0), 2);
            Check.due("the KIND by letter " + LETTERS[kind], Boards.fact(x, 0, 0), kind);
            Check.due("the KIND by letter " + LETTERS[5 - kind], Boards.fact(x, 1, 0), 5 - kind);
        }
        Check.terms("4 STICKY (t, 116; a SLOW one), 5 QUICK (q, 113; a SKIP one)");
        FlapBoard x = Boards.of("1 f00 s00 k00 b00 t00 q00");
        Check.due("SLOW ones", x.count(11), 2);
        Check.due("SKIP ones", x.count(12), 2);
        Check.holds("a STICKY one tells as a SLOW one", x.mark(4, 1) >= 0);
        Check.holds("a QUICK one tells as a SKIP one", x.mark(5, 2) >= 0);
        Check.due("a SLOW one is no STICKY one", x.mark(1, 4), FINDING);
        Check.due("a SKIP one is no QUICK one", x.mark(2, 5), FINDING);
    }

    private static int next(int figure) {
        return figure == 9 ? 0 : figure + 1;
    }

    private static int nextButMark(int figure, int mark, int goal) {
        int to = next(figure);
        return to == mark && mark != goal ? next(to) : to;
    }

    private static int turned(int kind, int shows, int mark, int goal) {
        if (kind == 3) {
            return shows == 0 ? 9 : shows - 1;
        }
        if (kind == 2) {
            return nextButMark(shows, mark, goal);
        }
        if (kind == 5) {
            int first = nextButMark(shows, mark, goal);
            return first == goal ? goal : nextButMark(first, mark, goal);
        }
        return next(shows);
    }

    /** Each KIND with each figure, MARK and GOAL there can be, looked at and TURNED. */
    private static void everyTurn() {
        Check.terms("A FLAP READY to turn TURNS from the figure that it SHOWS to the next one");
        for (int kind = 0; kind < 6; kind++) {
            for (int shows = 0; shows < 10; shows++) {
                for (int mark = 0; mark < 10; mark++) {
                    for (int goal = 0; goal < 10; goal++) {
                        turnDue(kind, shows, mark, goal);
                    }
                }
            }
        }
    }

    private static void turnDue(int kind, int shows, int mark, int goal) {
        String drum = "" + (char) LETTERS[kind] + shows + mark;
        FlapBoard x = Boards.aimed("1" + drum + "f00", goal);
        int to = turned(kind, shows, mark, goal);
        boolean ready = shows != goal;
        String told = drum + " aimed at " + goal;
        Check.due(told + ", what it would SHOW", Boards.fact(x, 0, 6), to);
        Check.due(told + ", whether READY", Boards.fact(x, 0, 5), ready ? 1 : 0);
        Check.due(told + ", how many TURN", x.tick(), ready ? 1 : 0);
        Check.due(told + ", what it SHOWS then", Boards.fact(x, 0, 1), ready ? to : shows);
    }

    private static void shownDue(String drum, int goal, int... figures) {
        FlapBoard x = Boards.aimed("1" + drum + "f00", goal);
        for (int n = 0; n < figures.length; n++) {
            Check.due(drum + " aimed at " + goal + " behind " + n, x.later(n) / 10, figures[n]);
        }
    }

    private static void turnsAtTheWrap() {
        Check.terms("(behind 9 comes 0)");
        shownDue("f80", 1, 8, 9, 0, 1, 1);
        shownDue("s80", 0, 8, 9, 9, 0, 0);
        shownDue("q85", 3, 8, 0, 2, 3, 3);
        shownDue("q95", 3, 9, 1, 3, 3);
        Check.terms("A SKIP one, where the next figure is its MARK, turns to the one behind that, unless its MARK is its GOAL");
        shownDue("k79", 2, 7, 8, 0, 1, 2, 2);
        shownDue("k80", 2, 8, 9, 1, 2, 2);
        shownDue("k80", 0, 8, 9, 0, 0);
        shownDue("k89", 9, 8, 9, 9);
        shownDue("k88", 0, 8, 9, 0, 0);
        shownDue("k90", 1, 9, 1, 1);
        Check.terms("a QUICK one turns so twice, unless it SHOWS its GOAL behind the first");
        shownDue("q79", 1, 7, 0, 1, 1);
        shownDue("q79", 9, 7, 9, 9);
        shownDue("q79", 8, 7, 8, 8);
        shownDue("q80", 1, 8, 1, 1);
        shownDue("q80", 9, 8, 9, 9);
        shownDue("q80", 0, 8, 0, 0);
        shownDue("q90", 1, 9, 1, 1);
        shownDue("q90", 2, 9, 2, 2);
        Check.terms("A BACK one turns to the one ahead (ahead of 0 is 9).");
        shownDue("b10", 8, 1, 0, 9, 8, 8);
        shownDue("b99", 8, 9, 8, 8);
        shownDue("b10", 2, 1, 0, 9, 8, 7, 6, 5, 4, 3, 2, 2);
    }

    /** Whether a DRUM held by a jam is READY, TICK by TICK. */
    private static void readyByTicks() {
        Check.terms("A SLOW one is so in TICKS of an even number alone; a STICKY one as a SLOW one, but where it SHOWS its MARK in TICKS that 4 divides alone.");
        String[] drums = {"f11", "s11", "k11", "b11", "t11", "q11", "t12", "t10", "s12"};
        int[] every = {1, 2, 1, 1, 4, 1, 2, 2, 2};
        for (int d = 0; d < drums.length; d++) {
            FlapBoard x = Boards.aimed("9" + drums[d] + "f00", 5);
            x.jam(0);
            for (int t = 0; t <= 38; t++) {
                Check.due(drums[d] + " in TICK " + t, Boards.fact(x, 0, 5), t % every[d] == 0 ? 1 : 0);
                x.tick();
            }
            Check.terms("It is READY, if it SHOWS another figure than its GOAL.");
            FlapBoard y = Boards.of("9" + drums[d] + "f00");
            Check.due(drums[d] + " that SHOWS its GOAL", Boards.fact(y, 0, 5), 0);
            y.aim(0, 0);
            Check.due(drums[d] + " that does not", Boards.fact(y, 0, 5), 1);
        }
    }

    private static void slowAndStickyOnTheirWay() {
        Check.terms("a STICKY one as a SLOW one, but where it SHOWS its MARK in TICKS that 4 divides alone");
        shownDue("s00", 3, 0, 1, 1, 2, 2, 3, 3);
        shownDue("t01", 3, 0, 1, 1, 1, 1, 2, 2, 3, 3);
        shownDue("t02", 4, 0, 1, 1, 2, 2, 3, 3, 4, 4);
        shownDue("t00", 2, 0, 1, 1, 2, 2);
        shownDue("t01", 1, 0, 1, 1, 1, 1, 1, 1);
        FlapBoard x = Boards.of("1t00f00");
        Boards.ticks(x, 1);
        x.aim(0, 2);
        int[] from1 = {0, 0, 0, 0, 1, 1, 2, 2};
        for (int n = 0; n < from1.length; n++) {
            Check.due("t00 aimed at 2 in TICK 1, behind " + n, x.later(n) / 10, from1[n]);
        }
    }

    // ---- ticks, deeds

    private static void atFirst() {
        Check.terms("At first it is TICK 0, each DRUM's GOAL is what it SHOWS, none is JAMMED.");
        FlapBoard x = Boards.of("9f09s19k29b79t89q99f55");
        Check.due("the TICK", x.count(1), 0);
        Check.due("DEEDS", x.count(2), 0);
        Check.due("TURNS", x.count(4), 0);
        Check.due("JAMMED", x.count(5), 0);
        Check.due("that SHOW their GOALS", x.count(6), 127);
        int[] shows = {0, 1, 2, 7, 8, 9, 5};
        for (int i = 0; i < 7; i++) {
            Check.due("the GOAL of " + i, Boards.fact(x, i, 2), shows[i]);
            Check.due("whether " + i + " is JAMMED", Boards.fact(x, i, 4), 0);
        }
    }

    private static void powerForSoMany() {
        Check.terms("In a TICK of those that are READY and not JAMMED as many as there is POWER for TURN (the lowest ones)");
        int[] shows = {0, 1000000, 1100000, 1110000, 1111000, 1111100, 1111110, 1111111, 1111111, 1111111};
        for (int p = 1; p <= 9; p++) {
            FlapBoard x = Boards.aimed(p + SEVEN.substring(1), 2, 2, 2, 2, 2, 2, 2);
            Check.due("TURN by a POWER of " + p, x.tick(), Math.min(p, 7));
            Check.due("THE BOARD SHOWS", x.count(3), shows[p]);
        }
        FlapBoard jams = Boards.aimed("2" + SEVEN.substring(1), 2, 2, 2, 2, 2, 2, 2);
        jams.jam(0);
        jams.jam(2);
        Check.due("a JAMMED one takes no POWER", jams.tick(), 2);
        Check.due("THE BOARD SHOWS", jams.count(3), 101000);
        FlapBoard slow = Boards.aimed("1s00f00f00", 2, 2, 2);
        slow.tick();
        Check.due("a SLOW one takes none in an odd TICK", slow.tick(), 1);
        Check.due("THE BOARD SHOWS", slow.count(3), 110);
        FlapBoard right = Boards.aimed("1f00f00f00", 1, 0, 1);
        right.tick();
        Check.due("one that SHOWS its GOAL takes none", right.tick(), 1);
        Check.due("THE BOARD SHOWS", right.count(3), 101);
    }

    private static void turnsCounted() {
        Check.terms("TURNS are counted (a QUICK one's as one)");
        FlapBoard x = Boards.aimed("9q09k01b00", 5, 3, 9);
        int[] turns = {3, 5, 6, 6};
        for (int t = 0; t < turns.length; t++) {
            x.tick();
            Check.due("TURNS behind " + (t + 1), x.count(4), turns[t]);
        }
        Check.due("THE BOARD SHOWS", x.count(3), 539);
    }

    private static void theBoardShows() {
        Check.terms("THE BOARD SHOWS the figures from the left as a number");
        Check.due("7 DRUMS", Boards.of("1f10f20f30f40f50f60f70").count(3), 1234567);
        Check.due("the greatest", Boards.of("1f90f90f90f90f90f90f90").count(3), 9999999);
        Check.due("0s at the left", Boards.of("1f00f00f50").count(3), 5);
        Check.due("0s at the right", Boards.of("1f50f00f00").count(3), 500);
        Check.due("the least", Boards.of("1f00f00").count(3), 0);
        Check.due("2 DRUMS", Boards.of("1f90f90").count(3), 99);
    }

    private static void told() {
        Check.terms("it is TOLD, if each DRUM SHOWS its GOAL");
        FlapBoard x = Boards.of("1f30f40");
        Check.due("at first", x.ends(), 0);
        x.jam(0);
        x.jam(1);
        Check.due("JAMMED ones that SHOW their GOALS", x.ends(), 0);
        x.aim(1, 5);
        Check.due("a JAMMED one that does not", x.ends(), NONE);
        x.jam(1);
        Check.due("freed", x.ends(), 1);
        x.aim(0, 4);
        Check.due("the other one does not", x.ends(), NONE);
    }

    private static Supplier<FlapBoard> deeds(int n) {
        return () -> {
            FlapBoard x = Boards.of("2f00f00");
            Boards.ticks(x, n);
            return x;
        };
    }

    private static void fortyDeeds() {
        Check.terms("These are DEEDS (40 at most).");
        String[] names = {"tick", "aim", "power", "jam", "lots"};
        int[][] arguments = {{}, {0, 9}, {5}, {1}, {1, 7}};
        for (int d = 0; d < names.length; d++) {
            FlapBoard x = deeds(39).get();
            Check.holds(names[d] + " as the 40th", Calls.call(x, names[d], arguments[d]) >= 0);
            Check.due("DEEDS", x.count(2), 40);
            Refused.full(deeds(40), names[d], arguments[d]);
            FlapBoard back = deeds(40).get();
            back.undo(39);
            Check.holds(names[d] + " in the place of one undone", Calls.call(back, names[d], arguments[d]) >= 0);
        }
        FlapBoard x = Boards.of("2f00f00");
        x.jam(0);
        Check.due("DEEDS behind jam", x.count(2), 1);
        x.jam(0);
        Check.due("DEEDS behind jam, freed", x.count(2), 2);
        x.aim(0, 5);
        Check.due("DEEDS behind aim", x.count(2), 3);
        x.power(9);
        Check.due("DEEDS behind power", x.count(2), 4);
        x.tick();
        Check.due("DEEDS behind tick", x.count(2), 5);
    }

    // ---- aside

    private static void aside() {
        Check.terms("(aside: nothing else done; beyond TICK 99, too)");
        Supplier<FlapBoard> scene = () -> {
            FlapBoard x = Scenes.busy();
            x.jam(2);
            Boards.fill(x, 3, 123456, 654321, 0);
            Boards.fill(x, 4, 1);
            x.order(3, 0);
            return x;
        };
        String[] names = {"later", "ends", "passes", "least", "soonest", "order", "kinds", "marks", "test", "duel", "odds", "mid"};
        int[][] arguments = {{60}, {}, {}, {}, {3}, {3, 0}, {0, 4}, {2, 4}, {0, 4}, {2}, {3, 20, 5}, {20, 5}};
        for (int c = 0; c < names.length; c++) {
            FlapBoard x = scene.get();
            Check.holds(names[c] + " is answered", Calls.call(x, names[c], arguments[c]) >= 0);
            Check.alike(names[c] + " leaves all as it was", Story.ofState(x), Story.ofState(scene.get()));
        }
    }

    private static void beyondTick99() {
        Check.terms("beyond TICK 99, too");
        FlapBoard x = Boards.of(SEVEN);
        Boards.ticks(x, 40);
        Check.due("later(60) from TICK 40 on", x.later(60), 0);
        Check.due("ends()", x.ends(), 0);
        Boards.fill(x, 0, 9999996);
        Check.due("soonest(0), a TURN in TICK 99", x.soonest(0), 0);
        Check.due("asked()", x.asked(), 60);
        // Each 30 TURNS from the one ahead or more: in an odd TICK that takes seven SLOW ones 60 TICKS.
        FlapBoard slow = Boards.of("1s00s00s00s00s00s00s00");
        Boards.fill(slow, 0, 8193036, 7286386, 9247873, 5313909, 1778142);
        Boards.ticks(slow, 39);
        Check.due("order(0, 1), TURNS in TICKS up to 338", slow.order(0, 1), 300);
        slow.tick();
        Check.due("order(0, 1) from an even TICK on", slow.order(0, 1), 299);
        Check.due("no TICK goes by", slow.count(1), 40);
    }

    private static void showedFromNowOn() {
        Check.terms("(a ROW of 1 to 20 figures: what it SHOWED behind 1, 2, .. TICKS from now on)");
        FlapBoard x = Boards.aimed("9f05f00", 3);
        kindsDue(x, 0, 0);
        kindsDue(x, 0b010111, 1);
        kindsDue(x, 0b000101, 1, 2, 3);
        x.tick();
        kindsDue(x, 0b010010, 1);
        kindsDue(x, 0b000101, 2);
        kindsDue(x, 0b000101, 2, 3);
        kindsDue(x, 0, 1, 2, 3, 3);
        kindsDue(x, 0b010010, 1, 2, 2, 3);
    }

    private static void kindsDue(FlapBoard x, int want, int... showed) {
        Boards.fill(x, 0, showed);
        Check.due("kinds in TICK " + x.count(1) + " by " + showed.length + ", the first " + showed[0], x.kinds(0, 0), want);
    }
}
