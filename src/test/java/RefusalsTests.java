import java.util.List;
import java.util.function.Supplier;

/**
 * Every refusal that a promise names: each at the first value outside and at the farthest one, and
 * where two fit the same call the one that comes first. Refused looks at finding(), findings() and
 * that nothing else has changed.
 */
public final class RefusalsTests {
    private static final int NOTHING = 1, BEYOND = 2, UNLIKE = 3, NOUGHT = 4, SIZE = 5;
    private static final int LOW = Integer.MIN_VALUE, HIGH = Integer.MAX_VALUE;
    private static final List<Supplier<FlapBoard>> WITH_DRUMS = List.of(Scenes::busy, Scenes::full);
    private static final int[] NO_ROWS = {-1, 6, LOW, HIGH};
    private static final int[] NO_TEXTS = {-1, 4, LOW, HIGH};
    private static final int[] NO_PLACES_KEPT = {-1, 3, LOW, HIGH};

    public static void main(String[] args) {
        rows();
        copy();
        texts();
        boards();
        deeds();
        keptBoards();
        ahead();
        messages();
        showed();
        chances();
        lots();
        told();
        Check.end("RefusalsTests");
    }

    private static Supplier<FlapBoard> withRow(Supplier<FlapBoard> scene, int r, int... values) {
        return () -> {
            FlapBoard x = scene.get();
            Boards.fill(x, r, values);
            x.at(0, 0);
            return x;
        };
    }

    // ---- 1 rows, texts, boards

    private static void rows() {
        Check.promise(2, "BAD: also n above 40; SIZE: below 0");
        for (int r : NO_ROWS) {
            Refused.badAnywhere("row", r, 3);
            Refused.badAnywhere("row", r, -1);
            Refused.badAnywhere("row", r, 41);
        }
        Refused.badAnywhere("row", 0, 41);
        Refused.badAnywhere("row", 5, HIGH);
        Refused.foundAnywhere(SIZE, "row", 0, -1);
        Refused.foundAnywhere(SIZE, "row", 5, LOW);

        Check.promise(3, "BAD; NOTHING; BEYOND");
        placesOf("lay", 1);
        Check.promise(4, "BAD; NOTHING; BEYOND");
        placesOf("at", 0);

        Check.promise(5, "BAD; NOTHING");
        for (int r : NO_ROWS) {
            Refused.badAnywhere("tear", r);
        }
        missingRows("tear");
        Check.promise(7, "BAD; NOTHING; NOUGHT");
        for (int r : NO_ROWS) {
            Refused.badAnywhere("mean", r);
        }
        missingRows("mean");
        Refused.found(NOUGHT, Scenes::papers, "mean", 1);
        Refused.found(NOUGHT, Scenes::busy, "mean", 1);
    }

    private static void missingRows(String name) {
        for (int r = 0; r < 6; r++) {
            Refused.found(NOTHING, Scenes::empty, name, r);
        }
        Refused.found(NOTHING, Scenes::papers, name, 3);
        Refused.found(NOTHING, Scenes::busy, name, 5);
    }

    /** Of lay (a value more) and at. */
    private static void placesOf(String name, int more) {
        for (int r : NO_ROWS) {
            Refused.badAnywhere(name, place(r, 0, more));
            Refused.badAnywhere(name, place(r, -1, more));
        }
        for (int i : new int[] {0, -1, 40, LOW, HIGH}) {
            Refused.found(NOTHING, Scenes::empty, name, place(0, i, more));
            Refused.found(NOTHING, Scenes::busy, name, place(5, i, more));
        }
        for (int i : new int[] {-1, 3, LOW, HIGH}) {
            Refused.found(BEYOND, Scenes::papers, name, place(0, i, more));
            Refused.found(BEYOND, Scenes::busy, name, place(0, i, more));
        }
        Refused.found(BEYOND, Scenes::papers, name, place(1, 0, more));
        Refused.found(BEYOND, Scenes::papers, name, place(1, -1, more));
        Refused.found(BEYOND, Scenes::papers, name, place(2, 40, more));
        Refused.found(BEYOND, Scenes::papers, name, place(2, -1, more));
    }

    private static int[] place(int r, int i, int more) {
        return more == 0 ? new int[] {r, i} : new int[] {r, i, 77};
    }

    private static void copy() {
        Check.promise(6, "BAD; SIZE: n below 0; NOTHING: either; BEYOND: not so many there");
        for (int r : NO_ROWS) {
            Refused.badAnywhere("copy", r, 0, 0, 0, 1);
            Refused.badAnywhere("copy", 0, 0, r, 0, 1);
            Refused.badAnywhere("copy", r, 0, r, 0, -1);
            Refused.badAnywhere("copy", r, 0, 5, 0, 1);
            Refused.badAnywhere("copy", 5, 0, r, 0, 1);
            Refused.badAnywhere("copy", r, -1, 0, 41, 9);
        }
        Supplier<FlapBoard> x = Scenes::papers;
        for (int n : new int[] {-1, LOW}) {
            Refused.foundAnywhere(SIZE, "copy", 0, 0, 2, 0, n);
            Refused.foundAnywhere(SIZE, "copy", 5, 0, 0, 0, n);
            Refused.foundAnywhere(SIZE, "copy", 0, 0, 5, 0, n);
            Refused.found(SIZE, x, "copy", 0, -1, 0, 99, n);
        }
        Refused.found(NOTHING, x, "copy", 5, 0, 0, 0, 1);
        Refused.found(NOTHING, x, "copy", 0, 0, 5, 0, 1);
        Refused.found(NOTHING, x, "copy", 5, 0, 5, 0, 0);
        Refused.found(NOTHING, x, "copy", 5, 0, 0, 0, 0);
        Refused.found(NOTHING, x, "copy", 5, -1, 0, 99, 50);
        Refused.found(NOTHING, x, "copy", 0, -1, 5, 99, 50);
        // ROW 0 has 3 places, ROW 1 none, ROW 2 40.
        int[][] beyond = {
            {0, 0, 2, 0, 4}, {0, 1, 2, 0, 3}, {0, 2, 2, 0, 2}, {0, 3, 2, 0, 1}, {0, 4, 2, 0, 0}, {0, -1, 2, 0, 0},
            {0, -1, 2, 0, 1}, {2, 0, 0, 0, 4}, {2, 0, 0, 1, 3}, {2, 0, 0, 3, 1}, {2, 0, 0, 4, 0}, {2, 0, 0, -1, 0},
            {2, 0, 0, -1, 1}, {1, 0, 0, 0, 1}, {0, 0, 1, 0, 1}, {1, 1, 1, 0, 0}, {1, 0, 1, 1, 0}, {2, 0, 2, 0, 41},
            {2, 1, 2, 0, 40}, {2, 0, 2, 1, 40}, {0, HIGH, 2, 0, 1}, {0, 1, 2, 0, HIGH}, {0, HIGH, 2, 0, HIGH},
            {0, LOW, 2, 0, HIGH}, {0, LOW, 2, 0, 0}, {2, 0, 0, HIGH, 1}, {2, 0, 0, LOW, HIGH}, {0, HIGH, 0, HIGH, 2}};
        for (int[] arguments : beyond) {
            Refused.found(BEYOND, x, "copy", arguments);
        }
    }

    private static void texts() {
        Check.promise(8, "BAD: also n above 60; SIZE: below 0");
        for (int t : NO_TEXTS) {
            Refused.badAnywhere("text", t, 3);
            Refused.badAnywhere("text", t, -1);
            Refused.badAnywhere("text", t, 61);
        }
        Refused.badAnywhere("text", 0, 61);
        Refused.badAnywhere("text", 3, HIGH);
        Refused.foundAnywhere(SIZE, "text", 0, -1);
        Refused.foundAnywhere(SIZE, "text", 3, LOW);

        Check.promise(9, "BAD; NOTHING; BEYOND");
        for (int t : NO_TEXTS) {
            Refused.badAnywhere("put", t, 0, 65);
            Refused.badAnywhere("put", t, -1, 65);
        }
        for (int i : new int[] {0, -1, 60, LOW, HIGH}) {
            Refused.found(NOTHING, Scenes::empty, "put", 0, i, 65);
            Refused.found(NOTHING, Scenes::busy, "put", 3, i, 65);
        }
        for (int i : new int[] {-1, 5, LOW, HIGH}) {
            Refused.found(BEYOND, Scenes::papers, "put", 0, i, 65);
        }
        Refused.found(BEYOND, Scenes::papers, "put", 1, 0, 65);
        Refused.found(BEYOND, Scenes::papers, "put", 1, -1, 65);
        Supplier<FlapBoard> sixty = () -> {
            FlapBoard x = new FlapBoard();
            x.text(2, 60);
            return x;
        };
        Refused.found(BEYOND, sixty, "put", 2, 60, 65);

        Check.promise(10, "BAD; NOTHING");
        textsMissing("fault");
    }

    private static void textsMissing(String name) {
        for (int t : NO_TEXTS) {
            Refused.badAnywhere(name, t);
        }
        for (int t = 0; t < 4; t++) {
            Refused.found(NOTHING, Scenes::empty, name, t);
        }
        Refused.found(NOTHING, Scenes::papers, name, 3);
        Refused.found(NOTHING, Scenes::full, name, 3);
    }

    private static void boards() {
        Check.promise(11, "BAD; NOTHING; STATE: a FAULT. (STATE behind NOTHING.)");
        textsMissing("board");
        for (int t = 0; t < 2; t++) {
            Refused.state(Scenes::papers, "board", t);
            Refused.state(Scenes::busy, "board", t);
            Refused.state(Scenes::full, "board", t);
        }

        Check.promise(12, "BAD");
        Refused.bad(Scenes::empty, "drum", 0, 0);
        Refused.bad(Scenes::papers, "drum", 0, 1);
        for (int i : new int[] {-1, 6, 7, LOW, HIGH}) {
            Refused.bad(Scenes::busy, "drum", i, 1);
            Refused.bad(Scenes::busy, "drum", i, 7);
        }
        for (int what : new int[] {-1, 7, LOW, HIGH}) {
            Refused.bad(Scenes::busy, "drum", 0, what);
        }

        Check.promise(13, "BAD: also KIND 0; UNLIKE");
        Refused.bad(Scenes::empty, "mark", 0, 1);
        Refused.bad(Scenes::papers, "mark", 0, 1);
        for (int i : new int[] {-1, 6, LOW, HIGH}) {
            Refused.bad(Scenes::busy, "mark", i, 3);
        }
        for (int kind : new int[] {0, -1, 6, LOW, HIGH}) {
            // DRUM 0 is a FLAP, which is of none of the other KINDS.
            Refused.bad(Scenes::busy, "mark", 0, kind);
            Refused.bad(Scenes::busy, "mark", 5, kind);
        }
        int[] of = {0b000001, 0b000011, 0b000101, 0b001001, 0b010011, 0b100101};
        for (int i = 0; i < 6; i++) {
            for (int kind = 1; kind < 6; kind++) {
                if ((of[i] >> kind & 1) == 0) {
                    Refused.found(UNLIKE, Scenes::busy, "mark", i, kind);
                }
            }
        }
    }

    // ---- 2 deeds

    private static void deeds() {
        Check.promise(14, "STATE: no DRUMS, or it is TICK 99; FULL: 40 DEEDS. (FULL last.)");
        Refused.state(Scenes::empty, "tick");
        Refused.state(Scenes::papers, "tick");
        Refused.full(Scenes::full, "tick");

        Check.promise(15, "BAD; STATE: it has that; FULL. (FULL last.)");
        Refused.bad(Scenes::empty, "aim", 0, 0);
        Refused.bad(Scenes::papers, "aim", 0, 0);
        for (Supplier<FlapBoard> scene : WITH_DRUMS) {
            for (int i : new int[] {-1, 6, LOW, HIGH}) {
                Refused.bad(scene, "aim", i, 5);
            }
            for (int f : new int[] {-1, 10, LOW, HIGH}) {
                Refused.bad(scene, "aim", 0, f);
            }
            Refused.state(scene, "aim", 0, 4);
            Refused.state(scene, "aim", 2, 0);
            Refused.state(scene, "aim", 3, 9);
        }
        Refused.full(Scenes::full, "aim", 0, 5);

        Check.promise(16, "BAD; STATE: no DRUMS, or it is that; FULL. (FULL last.)");
        for (int n : new int[] {0, 10, -1, LOW, HIGH}) {
            Refused.badAnywhere("power", n);
        }
        Refused.state(Scenes::empty, "power", 1);
        Refused.state(Scenes::papers, "power", 9);
        Refused.state(Scenes::busy, "power", 3);
        Refused.state(Scenes::full, "power", 3);
        Refused.full(Scenes::full, "power", 2);

        Check.promise(17, "BAD; FULL. (FULL last.)");
        Refused.bad(Scenes::empty, "jam", 0);
        Refused.bad(Scenes::papers, "jam", 0);
        for (int i : new int[] {-1, 6, 7, 32, LOW, HIGH}) {
            Refused.bad(Scenes::busy, "jam", i);
            Refused.bad(Scenes::full, "jam", i);
        }
        Refused.full(Scenes::full, "jam", 0);
        Refused.full(Scenes::full, "jam", 2);

        Check.promise(18, "BAD");
        for (int n : new int[] {-1, 41, LOW, HIGH}) {
            Refused.badAnywhere("undo", n);
        }
        Refused.bad(Scenes::empty, "undo", 1);
        Refused.bad(Scenes::papers, "undo", 1);
        Refused.bad(Scenes::busy, "undo", 10);
    }

    private static void keptBoards() {
        Check.promise(19, "BAD; STATE: no DRUMS");
        for (int k : NO_PLACES_KEPT) {
            Refused.badAnywhere("keep", k);
        }
        for (int k = 0; k < 3; k++) {
            Refused.state(Scenes::empty, "keep", k);
            Refused.state(Scenes::papers, "keep", k);
        }

        Check.promise(20, "BAD; NOTHING");
        for (int k : NO_PLACES_KEPT) {
            Refused.badAnywhere("on", k);
        }
        for (int k = 0; k < 3; k++) {
            Refused.found(NOTHING, Scenes::empty, "on", k);
            Refused.found(NOTHING, Scenes::papers, "on", k);
        }
        Refused.found(NOTHING, Scenes::busy, "on", 1);
        Refused.found(NOTHING, Scenes::full, "on", 1);
    }

    // ---- 3 what comes, 4 what to do

    private static void ahead() {
        Check.promise(21, "BAD; STATE: no DRUMS");
        for (int n : new int[] {-1, 61, LOW, HIGH}) {
            Refused.badAnywhere("later", n);
        }
        Refused.state(Scenes::empty, "later", 0);
        Refused.state(Scenes::papers, "later", 60);
        int promise = 22;
        for (String name : new String[] {"ends", "passes", "least"}) {
            Check.promise(promise++, "STATE: no DRUMS");
            Refused.state(Scenes::empty, name);
            Refused.state(Scenes::papers, name);
        }
    }

    private static void messages() {
        Check.promise(25, "BAD; STATE: no DRUMS; NOTHING; SIZE: none, more than 5; UNLIKE: below 0, or with more figures than DRUMS. (In this order.)");
        for (int r : NO_ROWS) {
            Refused.badAnywhere("soonest", r);
        }
        refusedMessages("soonest");

        Check.promise(26, "BAD; STATE; NOTHING; SIZE; UNLIKE. (In this order.)");
        for (int r : NO_ROWS) {
            Refused.badAnywhere("order", r, 0);
            Refused.badAnywhere("order", 0, r);
            Refused.badAnywhere("order", r, r);
            Refused.badAnywhere("order", 5, r);
            Refused.badAnywhere("order", 1, r);
            Refused.badAnywhere("order", 2, r);
        }
        refusedMessages("order", 4);
        refusedMessages("order", 0);
        refusedMessages("order", 3);
    }

    /** Of a call that takes the messages' ROW first; the busy BOARD has six DRUMS. */
    private static void refusedMessages(String name, int... behind) {
        Refused.state(Scenes::empty, name, with(5, behind));
        Refused.state(Scenes::papers, name, with(5, behind));
        Refused.state(Scenes::papers, name, with(1, behind));
        Refused.state(Scenes::papers, name, with(2, behind));
        Refused.state(Scenes::papers, name, with(0, behind));
        Refused.state(withRow(Scenes::papers, 3, -1), name, with(3, behind));
        for (Supplier<FlapBoard> x : WITH_DRUMS) {
            Refused.found(NOTHING, x, name, with(5, behind));
            Refused.found(SIZE, x, name, with(1, behind));
            Refused.found(SIZE, x, name, with(2, behind));
            Refused.found(SIZE, withRow(x, 3, 1, 2, 3, 4, 5, 6), name, with(3, behind));
            Refused.found(SIZE, withRow(x, 3, -1, 2, 3, 4, 5, 1000000), name, with(3, behind));
            for (int message : new int[] {-1, 1000000, LOW, HIGH}) {
                Refused.found(UNLIKE, withRow(x, 3, message), name, with(3, behind));
                Refused.found(UNLIKE, withRow(x, 3, message, 2, 3, 4, 5), name, with(3, behind));
                Refused.found(UNLIKE, withRow(x, 3, 1, 2, 3, 4, message), name, with(3, behind));
            }
        }
        String[] drums = {"9 f00 f00", "9 f00 f00 f00", "9 f00 f00 f00 f00", "9 f00 f00 f00 f00 f00",
            "9 f00 f00 f00 f00 f00 f00", "9 f00 f00 f00 f00 f00 f00 f00"};
        int first = 100;
        for (String text : drums) {
            Refused.found(UNLIKE, withRow(() -> Boards.of(text), 3, first), name, with(3, behind));
            FlapBoard x = withRow(() -> Boards.of(text), 3, first - 1).get();
            Check.holds(name + " of " + (first - 1) + " by " + text, Calls.call(x, name, with(3, behind)) >= 0);
            first *= 10;
        }
    }

    private static int[] with(int first, int... behind) {
        int[] all = new int[behind.length + 1];
        all[0] = first;
        System.arraycopy(behind, 0, all, 1, behind.length);
        return all;
    }

    // ---- 5 which drum it is

    private static void showed() {
        Check.promise(27, "BAD; NOTHING; SIZE: none, more than 20; UNLIKE: no figure. (In this order.)");
        refusedShowed("kinds");
        Check.promise(28, "BAD; NOTHING; SIZE; UNLIKE. (In this order.)");
        refusedShowed("marks");
        Check.promise(29, "BAD; NOTHING; SIZE; UNLIKE. (In this order.)");
        refusedShowed("test");
    }

    private static void refusedShowed(String name) {
        Refused.bad(Scenes::empty, name, 0, 0);
        Refused.bad(Scenes::papers, name, 0, 0);
        Refused.bad(Scenes::papers, name, 0, 5);
        for (int r : NO_ROWS) {
            Refused.badAnywhere(name, 0, r);
        }
        for (int i : new int[] {-1, 6, LOW, HIGH}) {
            for (int r = 0; r < 6; r++) {
                Refused.bad(Scenes::busy, name, i, r);
            }
            Refused.bad(Scenes::busy, name, i, 6);
        }
        for (Supplier<FlapBoard> x : WITH_DRUMS) {
            Refused.found(NOTHING, x, name, 0, 5);
            Refused.found(NOTHING, x, name, 5, 3);
            Refused.found(SIZE, x, name, 0, 1);
            Refused.found(SIZE, x, name, 0, 2);
            Refused.found(SIZE, withRow(x, 3, new int[21]), name, 0, 3);
            Refused.found(SIZE, withRow(x, 3, figures(21, 0, 10)), name, 0, 3);
            for (int figure : new int[] {-1, 10, LOW, HIGH}) {
                Refused.found(UNLIKE, withRow(x, 3, figure), name, 0, 3);
                Refused.found(UNLIKE, withRow(x, 3, figures(20, 0, figure)), name, 5, 3);
                Refused.found(UNLIKE, withRow(x, 3, figures(20, 19, figure)), name, 5, 3);
            }
        }
    }

    private static int[] figures(int size, int place, int figure) {
        int[] all = new int[size];
        all[place] = figure;
        return all;
    }

    // ---- 6 by turns, 7 chances, lots

    private static void chances() {
        Check.promise(30, "BAD; STATE: no DRUMS");
        for (int n : new int[] {-1, 3, LOW, HIGH}) {
            Refused.badAnywhere("duel", n);
        }
        for (int n = 0; n < 3; n++) {
            Refused.state(Scenes::empty, "duel", n);
            Refused.state(Scenes::papers, "duel", n);
        }
        Check.promise(31, "BAD; STATE: no DRUMS");
        for (int k : new int[] {-1, 8, LOW, HIGH}) {
            Refused.badAnywhere("odds", k, 0, 0);
        }
        for (int n : new int[] {-1, 21, LOW, HIGH}) {
            Refused.badAnywhere("odds", 0, n, 0);
        }
        for (int p : new int[] {-1, 13, LOW, HIGH}) {
            Refused.badAnywhere("odds", 0, 0, p);
        }
        Refused.state(Scenes::empty, "odds", 0, 0, 0);
        Refused.state(Scenes::papers, "odds", 7, 20, 12);
        Check.promise(32, "BAD; STATE: no DRUMS");
        for (int n : new int[] {-1, 21, LOW, HIGH}) {
            Refused.badAnywhere("mid", n, 0);
        }
        for (int p : new int[] {-1, 13, LOW, HIGH}) {
            Refused.badAnywhere("mid", 0, p);
        }
        Refused.state(Scenes::empty, "mid", 0, 0);
        Refused.state(Scenes::papers, "mid", 20, 12);
    }

    private static void lots() {
        Check.promise(33, "BAD; STATE: no DRUMS; FULL: with n more there would be more than 40 DEEDS. (FULL last.)");
        for (int n : new int[] {0, 21, -1, LOW, HIGH}) {
            Refused.badAnywhere("lots", n, 1);
        }
        for (int seed : new int[] {0, -1, LOW, 2147483647}) {
            Refused.badAnywhere("lots", 1, seed);
            Refused.badAnywhere("lots", 20, seed);
        }
        Refused.state(Scenes::empty, "lots", 1, 1);
        Refused.state(Scenes::papers, "lots", 20, 2147483646);
        Refused.full(Scenes::full, "lots", 1, 1);
        Refused.full(Scenes::full, "lots", 20, 2147483646);
        for (int n = 2; n <= 20; n++) {
            int tooMany = 41 - n;
            Refused.full(() -> {
                FlapBoard x = Boards.of("2 f00 s00");
                Boards.ticks(x, tooMany);
                return x;
            }, "lots", n, 5);
        }
    }

    // ---- 8 what is told

    private static void told() {
        Check.promise(37, "BAD");
        for (int what : new int[] {-1, 13, LOW, HIGH}) {
            Refused.badAnywhere("count", what);
        }
        Check.promise(39, "BAD");
        for (int f : new int[] {0, 6, -1, LOW, HIGH}) {
            Refused.badAnywhere("findings", f);
        }
    }
}
