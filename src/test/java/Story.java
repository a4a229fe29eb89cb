import java.util.ArrayList;
import java.util.List;

/** All that an object tells of itself but for its FINDINGS; asking for it wears the object out. */
final class Story {
    private Story() {
    }

    static List<Long> of(FlapBoard x) {
        List<Long> told = new ArrayList<>(List.of((long) x.asked(), x.upper(), x.lower()));
        told.addAll(ofState(x));
        return told;
    }

    /** Without what was told last: the state alone, with every DEED and what is kept. */
    static List<Long> ofState(FlapBoard x) {
        List<Long> told = new ArrayList<>();
        backToTheFirstDeed(x, told);
        for (int k = 0; k < 3; k++) {
            told.add((long) x.on(k));
            backToTheFirstDeed(x, told);
        }
        return told;
    }

    private static void backToTheFirstDeed(FlapBoard x, List<Long> told) {
        told.add(x.digest());
        for (int n = x.count(2) - 1; n >= 0; n--) {
            x.undo(n);
            told.add(x.digest());
        }
    }
}
