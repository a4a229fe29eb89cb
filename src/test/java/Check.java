import java.util.Arrays;

/** Counts the answers of a test class and ends it with 1 if one was not the one due. */
final class Check {
    private static int right = 0;
    private static int wrong = 0;
    private static String promise = "";

    private Check() {
    }

    static void promise(int number, String name) {
        promise = "promise " + number + " (" + name + "): ";
    }

    /** For a sentence that stands under 'Terms'. */
    static void terms(String sentence) {
        promise = "terms (" + sentence + "): ";
    }

    static void due(String call, long got, long want) {
        if (got == want) {
            right++;
        } else {
            wrong++;
            System.out.println(promise + call + " answered " + got + ", due is " + want);
        }
    }

    /** A call that tells a chance or a mean. */
    static void share(FlapBoard x, String call, int answer, long upper, long lower) {
        due(call, answer, 1);
        due("upper() behind " + call, x.upper(), upper);
        due("lower() behind " + call, x.lower(), lower);
    }

    static void holds(String what, boolean so) {
        if (so) {
            right++;
        } else {
            wrong++;
            System.out.println(promise + "does not hold: " + what);
        }
    }

    static void alike(String what, Object got, Object want) {
        holds(what + ": got " + got + ", due is " + want, got.equals(want));
    }

    static void ints(String what, int[] got, int... want) {
        alike(what, Arrays.toString(got), Arrays.toString(want));
    }

    static int wrong() {
        return wrong;
    }

    static void end(String name) {
        System.out.println(name + ": " + right + " right, " + wrong + " wrong");
        if (wrong != 0 || right == 0) {
            System.exit(1);
        }
    }
}
