import java.util.stream.IntStream;

/**
 * All that can be seen of an object, a part at a time. Looking may change the object (a tray is read by being poured),
 * so that each part is looked at on an object of its own; none needs more than the 512 calls that an object has.
 */
final class Look extends Checks {
    private static final int MANY_ROWS = 4;
    private static final int MANY_TRAYS = 4;
    private static final int MANY_IMAGES = 3;

    /** The parts; of ROW, TRAY and IMAGE it is the first one's. */
    static final int RULES = 0;
    static final int ROW = 1;
    static final int TRAY = ROW + MANY_ROWS;
    static final int IMAGE = TRAY + MANY_TRAYS;
    static final int TAPE = IMAGE + MANY_IMAGES;
    static final int FAULT = TAPE + 1;
    static final int FRACTION = FAULT + 1;
    static final int[] ALL = IntStream.rangeClosed(RULES, FRACTION).toArray();
    static final int[] ROWS = IntStream.range(ROW, TRAY).toArray();
    static final int[] RULES_AND_ROWS = IntStream.range(RULES, TRAY).toArray();

    private static final int NAMES_LOOKED_AT = 20;
    private static final int MOST_PLACES = 300;
    private static final int[] SOME_NAMES = {-1, 0, 1, 3, 8, 15};

    private final PerhapsRows x;
    private final StringBuilder seen = new StringBuilder();
    private boolean threw;

    private Look(PerhapsRows x) {
        this.x = x;
    }

    static String at(PerhapsRows x, int part) {
        Look look = new Look(x);
        switch (part) {
            case RULES -> look.rules();
            case TAPE -> look.tape();
            case FAULT -> look.note("fault", x.fault(0), x.fault(1));
            case FRACTION -> look.note("fraction", x.upper(), x.lower());
            default -> look.oneOfMany(part);
        }
        return look.seen.toString();
    }

    private void oneOfMany(int part) {
        if (part >= IMAGE) {
            image(part - IMAGE);
        } else if (part >= TRAY) {
            tray(part - TRAY);
        } else {
            row(part - ROW);
        }
    }

    /** All parts but these. */
    static int[] allBut(int... parts) {
        return IntStream.of(ALL).filter(part -> IntStream.of(parts).noneMatch(p -> p == part)).toArray();
    }

    private void note(String what, Object... answers) {
        seen.append(what).append('=');
        for (Object answer : answers) {
            seen.append(answer).append(' ');
        }
    }

    /** What the call answers, or the class that it throws. */
    private Object see(String what, Asking asking) {
        Object answer;
        threw = false;
        try {
            answer = asking.of(x);
        } catch (RuntimeException e) {
            threw = true;
            answer = e.getClass().getSimpleName();
        }
        note(what, answer);
        return answer;
    }

    private void rules() {
        note("rules", x.count(0), x.count(1), x.count(2), x.count(3));
        int marks = x.count(3);
        for (int m = 0; m < marks; m++) {
            int mark = m;
            for (int name : SOME_NAMES) {
                see("value", y -> y.value(mark, name, 8));
                see("place", y -> y.place(mark, name, 3));
            }
        }
        int world = x.count(1);
        for (int n = 0; n < world; n++) {
            int name = n;
            see("tag", y -> y.tag(name));
        }
    }

    private void numbersOf(int row) {
        for (int w = 0; w < 7; w++) {
            int what = w;
            see("of" + w, y -> y.of(row, what));
        }
    }

    private void cellsOf(int row) {
        threw = false;
        for (int p = 0; !threw && p < MOST_PLACES; p++) {
            int place = p;
            see("cell", y -> y.cell(row, place));
        }
    }

    private void guestsOf(int row) {
        int nests = x.of(row, 1);
        int slots = x.of(row, 3);
        for (int i = 0; i < nests * slots; i++) {
            int at = i;
            see("guest", y -> y.guest(row, at / slots, at % slots));
        }
    }

    private void row(int row) {
        boolean there = (x.count(4) >> row & 1) != 0;
        note("there", there);
        if (!there) {
            return;
        }
        numbersOf(row);
        cellsOf(row);
        if (x.of(row, 0) == 2) {
            guestsOf(row);
        }
        int names = Math.min(x.count(1), NAMES_LOOKED_AT);
        for (int n = 0; n < names; n++) {
            int name = n;
            see("yes", y -> y.yes(row, name));
            see("put", y -> y.isPut(row, name));
        }
        // how many a layer has taken shows when it takes more
        for (int n = 0; n < names; n++) {
            int name = n;
            see("put", y -> y.put(row, name));
            see("pushes", y -> y.of(row, 6));
            see("layers", y -> y.of(row, 5));
        }
        cellsOf(row);
    }

    /** Each number of the tray that is a name below 256 is WRONGED by one of two rows that say yes to all. */
    private void tray(int tray) {
        // rules are told to read it: whether it is MISSING shows ahead of them
        see("missing", y -> y.write(tray, -1, 0));
        x.rules(x.count(5));
        tell(x, "world 256;mark 0;");
        for (int r = 0; r < 2; r++) {
            int row = r;
            x.make(row, 0, 1, 1, 0);
            x.put(row, row);
            Object answer = see("wronged", y -> y.wronged(row, tray, NONE));
            for (int k = 0; answer instanceof Integer many && k < many; k++) {
                int at = k;
                see("wronged", y -> y.wronged(row, tray, at));
            }
        }
        threw = false;
        for (int p = 0; !threw && p < MOST_PLACES; p++) {
            int place = p;
            see("write", y -> y.write(tray, place, 0x8796a5b4c3d2e1f0L));
        }
    }

    private void image(int image) {
        see("restore", y -> {
            y.restore(image);
            return "done";
        });
        if (threw) {
            return;
        }
        note("rules", x.count(0), x.count(1), x.count(2), x.count(3), x.count(4));
        for (int row = 0; row < MANY_ROWS; row++) {
            numbersOf(row);
            cellsOf(row);
        }
    }

    private void tape() {
        note("tape", x.count(5));
        note("lines", x.rules(x.count(5)), x.fault(0), x.fault(1), x.count(1), x.count(3));
        see("value", y -> y.value(0, 5, 8));
    }
}
