import java.util.Arrays;
import java.util.function.Supplier;

/** Calls that are refused: what they answer, what their FINDING is, and that nothing else has changed. */
final class Refused {
    static final int BAD = -1, FULL = -2, FINDING = -3, STATE = -4;
    static final int NOTHING = 1, BEYOND = 2, UNLIKE = 3, NOUGHT = 4, SIZE = 5;

    private Refused() {
    }

    static void bad(Supplier<FlapBoard> scene, String name, int... arguments) {
        look(BAD, 0, scene, name, arguments);
    }

    static void state(Supplier<FlapBoard> scene, String name, int... arguments) {
        look(STATE, 0, scene, name, arguments);
    }

    static void full(Supplier<FlapBoard> scene, String name, int... arguments) {
        look(FULL, 0, scene, name, arguments);
    }

    static void found(int finding, Supplier<FlapBoard> scene, String name, int... arguments) {
        look(FINDING, finding, scene, name, arguments);
    }

    /** What must be refused alike with and without papers, a BOARD, room for DEEDS. */
    static void badAnywhere(String name, int... arguments) {
        bad(Scenes::empty, name, arguments);
        bad(Scenes::papers, name, arguments);
        bad(Scenes::busy, name, arguments);
        bad(Scenes::full, name, arguments);
    }

    static void foundAnywhere(int finding, String name, int... arguments) {
        found(finding, Scenes::empty, name, arguments);
        found(finding, Scenes::papers, name, arguments);
        found(finding, Scenes::busy, name, arguments);
        found(finding, Scenes::full, name, arguments);
    }

    private static void look(int answer, int finding, Supplier<FlapBoard> scene, String name, int... arguments) {
        FlapBoard x = scene.get();
        FlapBoard twin = scene.get();
        findAnother(x, finding);
        findAnother(twin, finding);
        String call = name + Arrays.toString(arguments);
        Check.due(call, Calls.call(x, name, arguments), answer);
        Check.due("finding() behind " + call, x.finding(), finding == 0 ? twin.finding() : finding);
        for (int f = 1; f <= 5; f++) {
            Check.due("findings(" + f + ") behind " + call, x.findings(f), twin.findings(f) + (f == finding ? 1 : 0));
        }
        Check.alike("all else behind " + call, Story.of(x), Story.of(twin));
    }

    /** A FINDING ahead of the call, unlike the one that is due: whether the call leaves it can be seen then. */
    private static void findAnother(FlapBoard x, int finding) {
        if (finding == SIZE) {
            x.put(3, 60, 0);
        } else {
            x.row(0, -1);
        }
    }
}
