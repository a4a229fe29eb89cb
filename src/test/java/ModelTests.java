import java.util.ArrayList;
import java.util.Arrays;
import java.util.List;
import java.util.Random;

/** Runs of 512 calls drawn by lots, each answer compared with the model's, and the state behind it. */
public final class ModelTests {
    private static final int RUNS = 150, CALLS = 512;

    private final FlapBoard x = new FlapBoard();
    private final Model model = new Model();
    private final Random lots;
    private final List<String> told = new ArrayList<>();
    private boolean right = true;

    private ModelTests(long seed) {
        lots = new Random(seed);
    }

    public static void main(String[] args) {
        int runs = System.getenv("MODEL_RUNS") == null ? RUNS : Integer.parseInt(System.getenv("MODEL_RUNS"));
        for (int seed = 1; seed <= runs && Check.wrong() < 5; seed++) {
            ModelTests run = new ModelTests(seed);
            run.go();
            Check.holds("run " + seed + ", of which the last calls are " + run.lastCalls(), run.right);
        }
        Check.end("ModelTests");
    }

    private String lastCalls() {
        return String.join("; ", told.subList(Math.max(0, told.size() - 12), told.size()));
    }

    private void go() {
        newBoard();
        int duels = 0;
        while (told.size() < CALLS && right) {
            int which = lots.nextInt(100);
            if (which < 2) {
                newBoard();
            } else if (which < 6) {
                messages();
            } else if (which < 12) {
                showed();
            } else if (which < 30) {
                compare(lots.nextInt(3) == 0 ? "aim" : "tick");
            } else {
                String name = Calls.NAMES[lots.nextInt(Calls.NAMES.length)];
                // The model goes through every duel in full: few of them are enough.
                if (name.equals("duel") && ++duels > 2) {
                    continue;
                }
                compare(name);
            }
        }
    }

    private void compare(String name) {
        compare(name, Calls.arguments(lots, name, x));
    }

    private long compare(String name, int... arguments) {
        long got = Calls.call(x, name, arguments);
        long want = Calls.call(model, name, arguments);
        told.add(name + Arrays.toString(arguments) + " = " + got + (got == want ? "" : ", due is " + want));
        right &= got == want;
        agree("asked", x.asked(), model.asked());
        agree("upper", x.upper(), model.upper());
        agree("lower", x.lower(), model.lower());
        agree("finding", x.finding(), model.finding());
        agree("digest", x.digest(), model.digest());
        return got;
    }

    private void agree(String what, long got, long want) {
        if (got != want) {
            told.add(what + " behind it: " + got + ", due is " + want);
            right = false;
        }
    }

    private void newBoard() {
        int t = lots.nextInt(4);
        String text = Calls.boardText(lots);
        compare("text", t, text.length());
        for (int i = 0; i < text.length(); i++) {
            if (text.charAt(i) != ' ') {
                x.put(t, i, text.charAt(i));
                model.put(t, i, text.charAt(i));
            }
        }
        compare("fault", t);
        if (compare("board", t) > 0 && lots.nextInt(4) != 0) {
            for (int i = 0; i < x.count(0); i++) {
                compare("aim", i, lots.nextInt(10));
            }
        }
    }

    private void fill(int r, int[] values) {
        compare("row", r, values.length);
        for (int i = 0; i < values.length; i++) {
            x.lay(r, i, values[i]);
            model.lay(r, i, values[i]);
        }
    }

    private void messages() {
        int most = (int) Math.pow(10, x.count(0));
        int[] values = new int[1 + lots.nextInt(5)];
        for (int i = 0; i < values.length; i++) {
            values[i] = lots.nextInt(30) == 0 ? most : lots.nextInt(most);
        }
        int r = lots.nextInt(6);
        fill(r, values);
        compare("soonest", r);
        compare("order", r, lots.nextInt(6));
    }

    /** What a drum would show, were it of some kind and mark; now and then with a false figure. */
    private void showed() {
        if (x.count(0) == 0) {
            return;
        }
        int i = lots.nextInt(x.count(0));
        compare("drum", i, 0);
        int kind = lots.nextInt(3) == 0 ? lots.nextInt(6) : x.asked();
        compare("drum", i, 3);
        int mark = lots.nextInt(3) == 0 ? lots.nextInt(10) : x.asked();
        int[] values = model.shownBy(i, kind, mark, 1 + lots.nextInt(lots.nextBoolean() ? 4 : 20));
        if (lots.nextInt(5) == 0) {
            values[lots.nextInt(values.length)] = lots.nextInt(11);
        }
        int r = lots.nextInt(6);
        fill(r, values);
        compare("kinds", i, r);
        compare("marks", i, r);
        compare("test", i, r);
    }
}
