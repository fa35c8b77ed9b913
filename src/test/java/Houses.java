/** Objects in states from which calls are refused: whatever a call could change is there to be seen. */
final class Houses extends Checks {
    private Houses() {
    }

    /** In 8 places a name has the places of PLAIN, then 8 less it, then 3 times it. */
    static final String FOUR_MARKS =
            "world 16;tags 8;mark name;mark name/4;mark size-name;mark name*3;tag name/2;";
    static final String ON_THE_TAPE = "world 9;mark name*7;";

    /** Bits, counts, nests (4 nests of one slot), layers; two images; trays 0 to 2; a tape, a fault, a fraction. */
    static PerhapsRows full() {
        PerhapsRows x = told(FOUR_MARKS);
        x.make(0, 0, 8, 2, 0);
        putQuietly(x, 0, 1, 5);
        x.make(1, 1, 8, 2, 0);
        putQuietly(x, 1, 1, 5);
        x.image(2);
        putQuietly(x, 1, 9);
        x.make(2, 2, 4, 2, 1);
        putQuietly(x, 2, 4, 9);
        x.make(3, 3, 2, 1, 2);
        putQuietly(x, 3, 1, 2, 3);
        x.image(0);
        putQuietly(x, 2, 0);
        common(x);
        return x;
    }

    /** Solved; bits of an odd size; 16 nests; solved, too; no image. */
    static PerhapsRows solved() {
        PerhapsRows x = told(FOUR_MARKS);
        x.make(0, 4, 8, 2, 0);
        fill(x, 0, 2, 3, 5);
        x.solve(0, 0);
        x.make(1, 0, 7, 1, 0);
        putQuietly(x, 1, 3, 6);
        x.make(2, 2, 16, 2, 2);
        putQuietly(x, 2, 8, 3);
        x.make(3, 4, 3, 3, 0);
        common(x);
        return x;
    }

    /** Layers and nests that are full, only the first two rows are there. */
    static PerhapsRows brim() {
        PerhapsRows x = told(FOUR_MARKS);
        x.make(0, 3, 1, 1, 1);
        putQuietly(x, 0, 3, 4, 5, 6);
        x.make(1, 2, 2, 2, 1);
        putQuietly(x, 1, 4, 0);
        common(x);
        return x;
    }

    /** Without a text, and nothing else. */
    static PerhapsRows empty() {
        return new PerhapsRows();
    }

    /** Trays: two names and one that is none; none, none, a name; nothing; 3 is missing. */
    private static void common(PerhapsRows x) {
        x.lying(0);
        tell(x, "mark 1;$");
        fill(x, 0, 1, 9, 16);
        x.tray(1, 1, 3);
        x.write(1, 0, -1);
        x.write(1, 1, 256);
        x.write(1, 2, 3);
        x.tray(2, 0, 0);
        feedText(x, ON_THE_TAPE);
    }

    private static void putQuietly(PerhapsRows x, int row, int... names) {
        for (int name : names) {
            x.put(row, name);
        }
    }
}
