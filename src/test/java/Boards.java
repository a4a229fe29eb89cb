/** Makes boards and rows for the tests, by the public face alone. */
final class Boards {
    private Boards() {
    }

    static void write(FlapBoard x, int t, String text) {
        x.text(t, text.length());
        for (int i = 0; i < text.length(); i++) {
            x.put(t, i, text.charAt(i));
        }
    }

    static FlapBoard of(String text) {
        FlapBoard x = new FlapBoard();
        write(x, 0, text);
        if (x.board(0) < 2) {
            throw new IllegalStateException("no board: " + text);
        }
        return x;
    }

    static FlapBoard aimed(String text, int... goals) {
        FlapBoard x = of(text);
        for (int i = 0; i < goals.length; i++) {
            x.aim(i, goals[i]);
        }
        return x;
    }

    static void fill(FlapBoard x, int r, int... values) {
        x.row(r, values.length);
        for (int i = 0; i < values.length; i++) {
            x.lay(r, i, values[i]);
        }
    }

    static int[] row(FlapBoard x, int r) {
        int size = 0;
        while (x.at(r, size) == 1) {
            size++;
        }
        int[] values = new int[size];
        for (int i = 0; i < size; i++) {
            x.at(r, i);
            values[i] = x.asked();
        }
        return values;
    }

    static int fact(FlapBoard x, int i, int what) {
        return x.drum(i, what) == 1 ? x.asked() : Integer.MIN_VALUE;
    }

    static int faultOf(String text) {
        FlapBoard x = new FlapBoard();
        write(x, 0, text);
        return x.fault(0);
    }

    static void ticks(FlapBoard x, int n) {
        for (int t = 0; t < n; t++) {
            x.tick();
        }
    }
}
