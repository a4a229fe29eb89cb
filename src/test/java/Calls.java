import java.util.Random;

/** Draws calls by lots: mostly such as have an answer, some at the edges, some wild. */
final class Calls {
    static final String[] NAMES = {
        "row", "lay", "at", "tear", "copy", "mean", "text", "put", "fault", "board", "drum", "mark",
        "tick", "aim", "power", "jam", "undo", "keep", "on", "later", "ends", "passes", "least", "soonest",
        "order", "kinds", "marks", "test", "duel", "odds", "mid", "lots", "asked", "upper", "lower", "count",
        "finding", "findings", "digest"};
    private static final int[] WILD = {
        Integer.MIN_VALUE, Integer.MIN_VALUE + 1, -1000, -60, -41, -7, -1, 41, 61, 99, 100, 127, 128, 255, 256,
        1000, 9999999, 10000000, Integer.MAX_VALUE - 1, Integer.MAX_VALUE};

    private Calls() {
    }

    /** A number 0 .. most, now and then one beside, seldom a wild one. */
    static int number(Random lots, int most) {
        int which = lots.nextInt(60);
        if (which == 0) {
            return WILD[lots.nextInt(WILD.length)];
        }
        if (which == 1) {
            return lots.nextBoolean() ? -1 : most + 1;
        }
        return lots.nextInt(most + 1);
    }

    static String boardText(Random lots) {
        StringBuilder text = new StringBuilder();
        blanks(lots, text);
        text.append((char) ('1' + lots.nextInt(lots.nextBoolean() ? 3 : 9)));
        int drums = 2 + lots.nextInt(6);
        for (int i = 0; i < drums; i++) {
            blanks(lots, text);
            text.append("fskbtq".charAt(lots.nextInt(6)));
            text.append((char) ('0' + lots.nextInt(10))).append((char) ('0' + lots.nextInt(10)));
        }
        blanks(lots, text);
        if (lots.nextInt(6) == 0) {
            text.setCharAt(lots.nextInt(text.length()), (char) lots.nextInt(256));
        }
        if (lots.nextInt(8) == 0) {
            text.setLength(lots.nextInt(text.length()));
        }
        if (lots.nextInt(10) == 0) {
            text.append("f00 f00 f00");
        }
        return text.substring(0, Math.min(60, text.length()));
    }

    private static void blanks(Random lots, StringBuilder text) {
        for (int i = lots.nextInt(3); i > 0; i--) {
            text.append(' ');
        }
    }

    static int[] arguments(Random lots, String name, FlapBoard x) {
        int drums = Math.max(0, x.count(0) - 1);
        switch (name) {
            case "row": return new int[] {number(lots, 5), number(lots, lots.nextBoolean() ? 6 : 40)};
            case "lay": return new int[] {number(lots, 5), number(lots, 6), value(lots)};
            case "at": return new int[] {number(lots, 5), number(lots, 6)};
            case "tear": case "mean": return new int[] {number(lots, 5)};
            case "copy":
                return new int[] {number(lots, 5), number(lots, 4), number(lots, 5), number(lots, 4), number(lots, 4)};
            case "text": return new int[] {number(lots, 3), number(lots, 60)};
            case "put": return new int[] {number(lots, 3), number(lots, 30), value(lots)};
            case "fault": case "board": return new int[] {number(lots, 3)};
            case "drum": return new int[] {number(lots, drums), number(lots, 6)};
            case "mark": return new int[] {number(lots, drums), number(lots, 5)};
            case "aim": return new int[] {number(lots, drums), number(lots, 9)};
            case "power": return new int[] {number(lots, 9)};
            case "jam": return new int[] {number(lots, drums)};
            case "undo": return new int[] {number(lots, x.count(2))};
            case "keep": case "on": return new int[] {number(lots, 2)};
            case "later": return new int[] {number(lots, 60)};
            case "soonest": return new int[] {number(lots, 5)};
            case "order": return new int[] {number(lots, 5), number(lots, 5)};
            case "kinds": case "marks": case "test": return new int[] {number(lots, drums), number(lots, 5)};
            case "duel": return new int[] {number(lots, 2)};
            case "odds": return new int[] {number(lots, 7), number(lots, 20), number(lots, 12)};
            case "mid": return new int[] {number(lots, 20), number(lots, 12)};
            case "lots": return new int[] {number(lots, 20), 1 + number(lots, Integer.MAX_VALUE - 2)};
            case "count": return new int[] {number(lots, 12)};
            case "findings": return new int[] {number(lots, 5)};
            default: return new int[0];
        }
    }

    private static int value(Random lots) {
        switch (lots.nextInt(4)) {
            case 0: return WILD[lots.nextInt(WILD.length)];
            case 1: return lots.nextInt(10);
            case 2: return lots.nextInt(100);
            default: return lots.nextInt();
        }
    }

    static long call(FlapBoard x, String name, int[] a) {
        switch (name) {
            case "row": return x.row(a[0], a[1]);
            case "lay": return x.lay(a[0], a[1], a[2]);
            case "at": return x.at(a[0], a[1]);
            case "tear": return x.tear(a[0]);
            case "copy": return x.copy(a[0], a[1], a[2], a[3], a[4]);
            case "mean": return x.mean(a[0]);
            case "text": return x.text(a[0], a[1]);
            case "put": return x.put(a[0], a[1], a[2]);
            case "fault": return x.fault(a[0]);
            case "board": return x.board(a[0]);
            case "drum": return x.drum(a[0], a[1]);
            case "mark": return x.mark(a[0], a[1]);
            case "tick": return x.tick();
            case "aim": return x.aim(a[0], a[1]);
            case "power": return x.power(a[0]);
            case "jam": return x.jam(a[0]);
            case "undo": return x.undo(a[0]);
            case "keep": return x.keep(a[0]);
            case "on": return x.on(a[0]);
            case "later": return x.later(a[0]);
            case "ends": return x.ends();
            case "passes": return x.passes();
            case "least": return x.least();
            case "soonest": return x.soonest(a[0]);
            case "order": return x.order(a[0], a[1]);
            case "kinds": return x.kinds(a[0], a[1]);
            case "marks": return x.marks(a[0], a[1]);
            case "test": return x.test(a[0], a[1]);
            case "duel": return x.duel(a[0]);
            case "odds": return x.odds(a[0], a[1], a[2]);
            case "mid": return x.mid(a[0], a[1]);
            case "lots": return x.lots(a[0], a[1]);
            case "asked": return x.asked();
            case "upper": return x.upper();
            case "lower": return x.lower();
            case "count": return x.count(a[0]);
            case "finding": return x.finding();
            case "findings": return x.findings(a[0]);
            case "digest": return x.digest();
            default: throw new IllegalStateException(name);
        }
    }

    static long call(Model x, String name, int[] a) {
        switch (name) {
            case "row": return x.row(a[0], a[1]);
            case "lay": return x.lay(a[0], a[1], a[2]);
            case "at": return x.at(a[0], a[1]);
            case "tear": return x.tear(a[0]);
            case "copy": return x.copy(a[0], a[1], a[2], a[3], a[4]);
            case "mean": return x.mean(a[0]);
            case "text": return x.text(a[0], a[1]);
            case "put": return x.put(a[0], a[1], a[2]);
            case "fault": return x.fault(a[0]);
            case "board": return x.board(a[0]);
            case "drum": return x.drum(a[0], a[1]);
            case "mark": return x.mark(a[0], a[1]);
            case "tick": return x.tick();
            case "aim": return x.aim(a[0], a[1]);
            case "power": return x.power(a[0]);
            case "jam": return x.jam(a[0]);
            case "undo": return x.undo(a[0]);
            case "keep": return x.keep(a[0]);
            case "on": return x.on(a[0]);
            case "later": return x.later(a[0]);
            case "ends": return x.ends();
            case "passes": return x.passes();
            case "least": return x.least();
            case "soonest": return x.soonest(a[0]);
            case "order": return x.order(a[0], a[1]);
            case "kinds": return x.kinds(a[0], a[1]);
            case "marks": return x.marks(a[0], a[1]);
            case "test": return x.test(a[0], a[1]);
            case "duel": return x.duel(a[0]);
            case "odds": return x.odds(a[0], a[1], a[2]);
            case "mid": return x.mid(a[0], a[1]);
            case "lots": return x.lots(a[0], a[1]);
            case "asked": return x.asked();
            case "upper": return x.upper();
            case "lower": return x.lower();
            case "count": return x.count(a[0]);
            case "finding": return x.finding();
            case "findings": return x.findings(a[0]);
            case "digest": return x.digest();
            default: throw new IllegalStateException(name);
        }
    }
}
