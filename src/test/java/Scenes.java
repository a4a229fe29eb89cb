/** States in which refusals are looked at; each is made anew, always alike. */
final class Scenes {
    private Scenes() {
    }

    static FlapBoard empty() {
        return new FlapBoard();
    }

    /** No BOARD. ROWS: 7 8 9, none, forty; TEXTS: a FAULT, none, a BOARD; ROWS 3 .. 5, TEXT 3 are missing. */
    static FlapBoard papers() {
        FlapBoard x = new FlapBoard();
        Boards.fill(x, 0, 7, 8, 9);
        x.row(1, 0);
        x.row(2, 40);
        x.lay(2, 39, 5);
        Boards.write(x, 0, "5 f00");
        x.text(1, 0);
        Boards.write(x, 2, "2 f01 s12 k23 b34 t45 q56");
        x.at(0, 1);
        return x;
    }

    /**
     * The same papers and a BOARD of six DRUMS, one of each KIND; 9 DEEDS, kept in place 2, other ones
     * kept in place 0, a mean told.
     */
    static FlapBoard busy() {
        FlapBoard x = papers();
        x.board(2);
        x.jam(5);
        x.aim(4, 8);
        x.tick();
        x.keep(0);
        x.undo(0);
        x.aim(0, 4);
        x.aim(1, 3);
        x.tick();
        x.jam(2);
        x.aim(5, 1);
        x.power(3);
        x.tick();
        x.keep(2);
        x.aim(3, 9);
        x.aim(2, 0);
        x.mid(3, 5);
        x.at(0, 2);
        return x;
    }

    /** The same with 40 DEEDS. */
    static FlapBoard full() {
        FlapBoard x = busy();
        Boards.ticks(x, 31);
        return x;
    }
}
