/** What a call that answers leaves as it was: all but what the document says that it changes, in every house. */
public final class EdgesElseTest extends Checks {
    private EdgesElseTest() {
    }

    /** Houses.full() with names in tray 1, 9 no, 0 and 4; sizes in tray 2; row 0 says yes to 0, which isn't PUT. */
    private static PerhapsRows asked() {
        PerhapsRows x = Houses.full();
        fill(x, 1, 9, 0, 4);
        fill(x, 2, 8, 8, 5);
        return x;
    }

    /** Houses.full() with bits of row 0's size and marks in place of that row. */
    private static PerhapsRows alike(int row) {
        PerhapsRows x = Houses.full();
        x.make(row, 0, 8, 2, 0);
        x.put(row, 6);
        return x;
    }

    /** Houses.solved() with names in tray 1 for which both of its SOLVED rows can be. */
    private static PerhapsRows solvable() {
        PerhapsRows x = Houses.solved();
        fill(x, 1, 0, 2);
        return x;
    }

    private static void asks(String call, Object want, Asking asking) {
        edge(call + " changes nothing", () -> {
            stays(want, EdgesElseTest::asked, asking);
            unchanged(Houses::solved, x -> asking.of(x), Look.ALL);
            unchanged(Houses::brim, x -> asking.of(x), Look.ALL);
        });
    }

    private static void changes(String call, House house, Deed deed, int... parts) {
        edge(call + " changes nothing else", () -> {
            deed.on(house.build());
            unchanged(house, deed, Look.allBut(parts));
        });
    }

    private static void changes(String call, Deed deed, int... parts) {
        changes(call, Houses::full, deed, parts);
    }

    // ------------------------------------------------------------ calls that only answer

    private static void askedOfRules() {
        about("promises 4 to 7, 37");
        asks("fault(0)", 1, x -> x.fault(0));
        asks("fault(1)", 7, x -> x.fault(1));
        asks("fault(2)", NONE, x -> x.fault(2));
        asks("value", 3, x -> x.value(2, 5, 8));
        asks("value of no name", -7, x -> x.value(0, -7, 8));
        asks("place", 7, x -> x.place(3, 5, 8));
        asks("place of no name", 1, x -> x.place(0, -7, 8));
        asks("tag", 4, x -> x.tag(9));
        int[] counts = {7, 16, 8, 4, 15, 20, NONE};
        for (int w = 0; w < counts.length; w++) {
            int what = w;
            asks("count(" + what + ")", counts[what], x -> x.count(what));
        }
        // every look counts the ROWS: here nothing does but the calls themselves
        edge("count leaves what NESTS and LAYERS take", () -> {
            PerhapsRows x = told(PLAIN);
            x.make(0, 3, 2, 1, 3);
            x.make(1, 2, 4, 2, 3);
            for (int what = -1; what < 7; what++) {
                x.count(what);
            }
            due("of(0,3)", 3, x.of(0, 3));
            due("of(1,3)", 3, x.of(1, 3));
            putAll(x, 0, 1, 2, 3);
            due("of(0,5)", 1, x.of(0, 5));
            putAll(x, 0, 4);
            due("of(0,5)", 2, x.of(0, 5));
        });
    }

    private static void askedOfRows() {
        about("promises 9 to 19");
        int[] numbers = {2, 4, 2, 1, 3, 1, 2};
        for (int w = 0; w < numbers.length; w++) {
            int what = w;
            asks("of(2," + what + ")", numbers[what], x -> x.of(2, what));
        }
        asks("cell of BITS", 1, x -> x.cell(0, 5));
        asks("cell of COUNTS", 3, x -> x.cell(1, 1));
        asks("cell of NESTS", 1, x -> x.cell(2, 2));
        asks("cell of LAYERS", 1, x -> x.cell(3, 5));
        asks("guest", 4, x -> x.guest(2, 1, 0));
        asks("guest of a free slot", NONE, x -> x.guest(2, 3, 0));
        asks("yes of BITS", true, x -> x.yes(0, 0));
        asks("yes of COUNTS", false, x -> x.yes(1, 4));
        asks("yes of NESTS", true, x -> x.yes(2, 8));
        asks("yes of LAYERS", true, x -> x.yes(3, 9));
        asks("isPut", true, x -> x.isPut(1, 9));
        asks("isPut of a LIE", false, x -> x.isPut(1, 0));
        asks("put of who was there", 1, x -> x.put(0, 5));
        asks("put that can't be", NONE, x -> x.put(2, 8));
        edge("take of who isn't PUT changes nothing", () -> stays(false, EdgesElseTest::asked, x -> x.take(1, 0)));
        stillSolved();
    }

    private static void stillSolved() {
        // 2 is at 2 and 0 and has the tag 1, 3 at 3 and 0, the tag 1, 5 at 5 and 1, the tag 2
        edge("cell, yes, isPut and of of SOLVED change nothing", () -> {
            stays(1, Houses::solved, x -> x.cell(0, 0));
            stays(2, Houses::solved, x -> x.cell(0, 1));
            stays(true, Houses::solved, x -> x.yes(0, 5));
            stays(true, Houses::solved, x -> x.isPut(0, 3));
            stays(3, Houses::solved, x -> x.of(0, 4));
        });
        edge("solve that can't be changes nothing", () -> {
            House house = () -> {
                PerhapsRows x = Houses.solved();
                x.make(0, 4, 1, 1, 0);
                fill(x, 1, 0, 2);
                return x;
            };
            stays(NONE, house, x -> x.solve(0, 1));
        });
    }

    private static void askedOfLies() {
        about("promises 21 to 26");
        asks("upper", 1, x -> x.upper());
        asks("lower", 14, x -> x.lower());
        asks("lie", 0, x -> x.lie(0, 0));
        asks("lie that is none", NONE, x -> x.lie(0, 1));
        asks("how many are wronged", 1, x -> x.wronged(0, 1, NONE));
        asks("wronged", 0, x -> x.wronged(0, 1, 0));
        asks("worse", 12, x -> x.worse(3, 0));
        asks("worse than itself", 0, x -> x.worse(2, 2));
        // row 0 says yes to 0 of the list alone; its level 1 to nobody who is PUT
        int[] levels = {2, 3, 16};
        for (int w = 0; w < levels.length; w++) {
            int what = w;
            asks("cascade, what " + what, levels[what], x -> x.cascade(0, 1, 2, what));
        }
    }

    private static void askedByWhoAsks() {
        about("promises 27 to 31");
        int[] learned = {1, 1, 0};
        for (int w = 0; w < learned.length; w++) {
            int what = w;
            asks("learn, what " + what, learned[what], x -> x.learn(0, 1, what));
        }
        asks("ask", 5, x -> x.ask(0, 1));
        asks("worst, what 0", 11, x -> x.worst(0, 0));
        asks("worst, what 1", 7, x -> x.worst(0, 1));
        asks("blame", 1, x -> x.blame(0, 0));
        asks("blame of who says no", NONE, x -> x.blame(0, 9));
        int[] chosen = {8, 1, 2};
        for (int w = 0; w < chosen.length; w++) {
            int what = w;
            asks("choose, what " + what, chosen[what], x -> x.choose(0, 12, what));
        }
        asks("choose for too little money", NONE, x -> x.choose(0, 11, 0));
    }

    // ------------------------------------------------------------ calls that change something

    private static void changesOfRules() {
        about("promises 2, 3");
        changes("feed", x -> x.feed(1, 2, 3, 4, 5), Look.TAPE);
        changes("rules", x -> x.rules(20), Look.RULES, Look.ROW, Look.ROW + 1, Look.ROW + 2, Look.ROW + 3, Look.TAPE,
                Look.FAULT);
        changes("rules with a FAULT", x -> x.rules(19), Look.TAPE, Look.FAULT);
    }

    private static void changesOfRows() {
        about("promises 8, 14 to 19, 34");
        for (int r = 0; r < 4; r++) {
            int row = r;
            changes("make of ROW " + row, x -> x.make(row, 0, 4, 1, 0), Look.ROW + row);
            changes("put in " + KINDS[row], x -> x.put(row, row == 2 ? 3 : 7), Look.ROW + row);
            changes("pour in " + KINDS[row], EdgesElseTest::asked, x -> x.pour(row, 1), Look.ROW + row);
        }
        changes("make of a ROW that wasn't there", Houses::brim, x -> x.make(3, 4, 4, 1, 0), Look.ROW + 3);
        changes("take out of COUNTS", x -> x.take(1, 9), Look.ROW + 1);
        changes("take out of NESTS", x -> x.take(2, 0), Look.ROW + 2);
        for (int r = 2; r < 4; r++) {
            int row = r;
            changes("join of " + row + " and 0", () -> alike(row), x -> x.join(row, 0), Look.ROW + row);
            changes("join of 0 and " + row, () -> alike(row), x -> x.join(0, row), Look.ROW);
        }
        changes("halve of BITS", x -> x.halve(0), Look.ROW);
        changes("halve of COUNTS", x -> x.halve(1), Look.ROW + 1);
        changes("grow", x -> x.grow(2), Look.ROW + 2);
        changes("solve", EdgesElseTest::solvable, x -> due("solve(0,1)", 2, x.solve(0, 1)), Look.ROW);
        changes("solve beside LAYERS", () -> {
            PerhapsRows x = asked();
            x.make(0, 4, 8, 1, 0);
            return x;
        }, x -> due("solve(0,1)", 3, x.solve(0, 1)), Look.ROW);
        changes("solve of another one", EdgesElseTest::solvable, x -> due("solve(3,1)", 2, x.solve(3, 1)), Look.ROW + 3);
    }

    private static void changesOfTheRest() {
        about("promises 20, 32, 33, 35, 36");
        changes("lying", x -> x.lying(1), Look.FRACTION);
        changes("lying without names that aren't PUT", () -> {
            PerhapsRows x = Houses.full();
            for (int name = 0; name < 16; name++) {
                x.put(1, name);
            }
            return x;
        }, x -> due("lying(1)", false, x.lying(1)), Look.FRACTION);
        for (int t = 0; t < 4; t++) {
            int tray = t;
            changes("tray " + tray, x -> x.tray(tray, 1, 7), Look.TRAY + tray);
        }
        changes("write to the first place", x -> x.write(0, 0, 7), Look.TRAY);
        changes("write to the last place", x -> x.write(1, 2, 7), Look.TRAY + 1);
        for (int i = 0; i < 3; i++) {
            int image = i;
            changes("image " + image, x -> x.image(image), Look.IMAGE + image);
        }
        changes("restore(0)", x -> x.restore(0), Look.RULES_AND_ROWS);
        changes("restore(2)", x -> x.restore(2), Look.RULES_AND_ROWS);
    }

    // ------------------------------------------------------------ refused calls where not all is there

    private static void refusedWhereLessIsThere() {
        about("promises 32, 33, 35, 36, where only two ROWS are there");
        edge("tray", () -> {
            refused(NO_SUCH, Houses::brim, x -> x.tray(4, 0, 1));
            refused(ARGUMENT, Houses::brim, x -> x.tray(3, 4, 1));
            refused(ARGUMENT, Houses::empty, x -> x.tray(3, 0, 41));
        });
        edge("write", () -> {
            refused(NO_SUCH, Houses::brim, x -> x.write(4, 0, 1));
            refused(STATE, Houses::brim, x -> x.write(3, 0, 1));
            refused(INDEX, Houses::brim, x -> x.write(0, 3, 1));
            refused(STATE, Houses::empty, x -> x.write(0, 0, 1));
        });
        edge("image", () -> {
            refused(NO_SUCH, Houses::brim, x -> x.image(3));
            refused(NO_SUCH, Houses::empty, x -> x.image(-1));
        });
        edge("restore", () -> {
            refused(NO_SUCH, Houses::brim, x -> x.restore(3));
            refused(STATE, Houses::brim, x -> x.restore(0));
            refused(STATE, Houses::empty, x -> x.restore(0));
        });
    }

    public static void main(String[] args) {
        askedOfRules();
        askedOfRows();
        askedOfLies();
        askedByWhoAsks();
        changesOfRules();
        changesOfRows();
        changesOfTheRest();
        refusedWhereLessIsThere();
        report("what calls leave as it was");
    }
}
