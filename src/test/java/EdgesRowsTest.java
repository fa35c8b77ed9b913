/** The boundaries that the document names in ROWS and in promises 8 to 19, each in an edge of its own. */
public final class EdgesRowsTest extends Checks {
    private static final int BITS = 0;
    private static final int COUNTS = 1;
    private static final int NESTS = 2;
    private static final int LAYERS = 3;
    private static final int SOLVED = 4;
    private static final int[] NO_NAMES = {-1, 16, MIN, MAX};

    private EdgesRowsTest() {
    }

    /** Every name is at one PLACE, 0, in rows of one MARK; in rows of two, it is at 0 twice. */
    private static PerhapsRows crowd() {
        return told("world 256;mark 0;mark 0;");
    }

    private static PerhapsRows alone(int kind, int size, int marks, int extra) {
        PerhapsRows x = told(Houses.FOUR_MARKS);
        x.make(0, kind, size, marks, extra);
        return x;
    }

    private static int fittingExtra(int kind) {
        return kind == NESTS || kind == LAYERS ? 1 : 0;
    }

    private static void noName(OnIndex call) {
        for (int name : NO_NAMES) {
            edge("no such name: " + name, () -> refused(ARGUMENT, x -> call.of(x, name)));
        }
    }

    // ------------------------------------------------------------ 8

    private static void fits(String sentence, int kind, int size, int marks, int extra) {
        edge(sentence, () -> {
            PerhapsRows x = Houses.full();
            x.make(0, kind, size, marks, extra);
            due("KIND", kind, x.of(0, 0));
            due("SIZE", size, x.of(0, 1));
            due("MARKS", marks, x.of(0, 2));
            due("extra", extra, x.of(0, 3));
        });
    }

    private static void unfit(String sentence, int kind, int size, int marks, int extra) {
        edge(sentence, () -> {
            refused(ARGUMENT, x -> x.make(0, kind, size, marks, extra));
            refused(ARGUMENT, Houses::brim, x -> x.make(3, kind, size, marks, extra));
        });
    }

    private static void makeSizes() {
        about("promise 8, SIZE");
        int[] most = {64, 64, 16, 16, 64};
        for (int kind = 0; kind < 5; kind++) {
            String told = KINDS[kind] + " of size ";
            int extra = fittingExtra(kind);
            fits(told + 1, kind, 1, 2, extra);
            fits(told + most[kind], kind, most[kind], 2, extra);
            unfit(told + 0, kind, 0, 2, extra);
            unfit(told + -1, kind, -1, 2, extra);
            unfit(told + (most[kind] + 1), kind, most[kind] + 1, 2, extra);
            unfit(told + MIN, kind, MIN, 2, extra);
            unfit(told + MAX, kind, MAX, 2, extra);
        }
    }

    private static void makeMarks() {
        about("promise 8, MARKS");
        for (int kind : new int[] {BITS, COUNTS, LAYERS}) {
            String told = KINDS[kind] + " of so many of 4 marks: ";
            int extra = fittingExtra(kind);
            fits(told + 1, kind, 8, 1, extra);
            fits(told + 4, kind, 8, 4, extra);
            unfit(told + 0, kind, 8, 0, extra);
            unfit(told + -1, kind, 8, -1, extra);
            unfit(told + 5, kind, 8, 5, extra);
            unfit(told + MAX, kind, 8, MAX, extra);
        }
        fits("NESTS of 2 marks", NESTS, 8, 2, 1);
        unfit("NESTS of 0 marks", NESTS, 8, 0, 1);
        unfit("NESTS of 1 mark", NESTS, 8, 1, 1);
        unfit("NESTS of 3 marks", NESTS, 8, 3, 1);
        fits("SOLVED of 1 mark", SOLVED, 8, 1, 0);
        fits("SOLVED of 3 marks", SOLVED, 8, 3, 0);
        unfit("SOLVED of 0 marks", SOLVED, 8, 0, 0);
        unfit("SOLVED of 4 marks that are told", SOLVED, 8, 4, 0);
        edge("NESTS if one mark is told", () -> refused(ARGUMENT, () -> told("mark 1;"), x -> x.make(0, NESTS, 8, 2, 1)));
        edge("SOLVED of 3 marks if two are told", () -> refused(ARGUMENT, () -> told(PLAIN), x -> x.make(0, SOLVED, 8, 3, 0)));
        edge("6 marks if six are told", () -> {
            PerhapsRows x = told("mark 1;mark 1;mark 1;mark 1;mark 1;mark 1;");
            x.make(0, BITS, 8, 6, 0);
            due("of(0,2)", 6, x.of(0, 2));
        });
        for (int kind = 0; kind < 5; kind++) {
            int asked = kind;
            edge(KINDS[kind] + " if no mark is told", () -> refused(ARGUMENT, Houses::empty,
                    x -> x.make(0, asked, 8, asked == NESTS ? 2 : 1, fittingExtra(asked))));
        }
    }

    private static void makeExtras() {
        about("promise 8, extra");
        fits("NESTS of 1 slot", NESTS, 8, 2, 1);
        fits("NESTS of 4 slots", NESTS, 8, 2, 4);
        unfit("NESTS of 0 slots", NESTS, 8, 2, 0);
        unfit("NESTS of -1 slots", NESTS, 8, 2, -1);
        unfit("NESTS of 5 slots", NESTS, 8, 2, 5);
        fits("LAYERS of 1 put", LAYERS, 8, 1, 1);
        fits("LAYERS of 20 puts", LAYERS, 8, 1, 20);
        unfit("LAYERS of 0 puts", LAYERS, 8, 1, 0);
        unfit("LAYERS of -1 puts", LAYERS, 8, 1, -1);
        unfit("LAYERS of 21 puts", LAYERS, 8, 1, 21);
        for (int kind : new int[] {BITS, COUNTS, SOLVED}) {
            unfit(KINDS[kind] + " of extra 1", kind, 8, 1, 1);
            unfit(KINDS[kind] + " of extra -1", kind, 8, 1, -1);
        }
    }

    private static void making() {
        about("promise 8");
        for (int row : NONE_OF_FOUR) {
            edge("no such ROW: " + row, () -> refused(NO_SUCH, x -> x.make(row, BITS, 8, 1, 0)));
        }
        edge("ROWS 0 to 3", () -> {
            PerhapsRows x = told(PLAIN);
            for (int row = 0; row < 4; row++) {
                x.make(row, BITS, 8, 1, 0);
                due("count(4)", (2 << row) - 1, x.count(4));
            }
        });
        for (int kind : new int[] {-1, 5, MIN, MAX}) {
            unfit("no such KIND: " + kind, kind, 8, 2, 0);
            unfit("no such KIND with slots: " + kind, kind, 8, 2, 1);
        }
        edge("a ROW comes ahead of all else", () -> refused(NO_SUCH, x -> x.make(4, 5, 0, 0, 9)));
        edge("the first ROW above comes ahead of a KIND", () -> refused(NO_SUCH, x -> x.make(4, 5, 8, 1, 0)));
        for (int kind = 0; kind < 5; kind++) {
            int made = kind;
            for (int row = 0; row < 4; row++) {
                int at = row;
                edge("nobody is in " + KINDS[kind] + " in place of " + KINDS[row], () -> newInPlace(at, made));
            }
        }
        edge("nobody is in NESTS in place of SOLVED", () -> {
            PerhapsRows x = Houses.solved();
            x.make(0, NESTS, 8, 2, 1);
            cells(x, 0, 0, 0, 0, 0, 0, 0, 0, 0);
            due("of(0,4)", 0, x.of(0, 4));
        });
    }

    private static void newInPlace(int row, int kind) {
        PerhapsRows x = Houses.full();
        x.make(row, kind, 4, 2, kind == LAYERS ? 2 : fittingExtra(kind));
        cells(x, row, 0, 0, 0, 0);
        due("who is PUT", 0, x.of(row, 4));
        due("layers", 1, x.of(row, 5));
        due("PUSHES", 0, x.of(row, 6));
        for (int name = 0; name < 16; name++) {
            due("isPut", false, x.isPut(row, name));
        }
        if (kind == LAYERS) {
            putAll(x, row, 1, 2);
            due("the first layer takes two", 1, x.of(row, 5));
            putAll(x, row, 3);
            due("and not three", 2, x.of(row, 5));
        }
    }

    // ------------------------------------------------------------ 9

    private static void numbersOfRows() {
        about("promise 9");
        noRow((x, row) -> x.of(row, 0));
        for (int what : new int[] {-1, 7, MIN, MAX}) {
            edge("another what: " + what, () -> refused(ARGUMENT, x -> x.of(0, what)));
        }
        edge("a ROW comes ahead of a what", () -> refused(NO_SUCH, x -> x.of(4, 7)));
        edge("what 0 to 6 of LAYERS", () -> {
            int[] want = {LAYERS, 2, 1, 2, 3, 2, 0};
            for (int what = 0; what < want.length; what++) {
                due("of(3," + what + ")", want[what], Houses.full().of(3, what));
            }
        });
        edge("who is PUT: nobody", () -> due("of(0,4)", 0, alone(BITS, 8, 1, 0).of(0, 4)));
        edge("who is PUT: all of the largest WORLD", () -> {
            PerhapsRows x = crowd();
            x.make(0, BITS, 1, 1, 0);
            for (int name = 0; name < 256; name++) {
                x.put(0, name);
            }
            due("of(0,4)", 256, x.of(0, 4));
        });
        for (int kind : new int[] {BITS, COUNTS, NESTS, SOLVED}) {
            edge("layers: 1 of " + KINDS[kind], () -> due("of(0,5)", 1, alone(kind, 8, 2, fittingExtra(kind)).of(0, 5)));
        }
        edge("layers: 1 of LAYERS in which nobody is", () -> due("of(0,5)", 1, alone(LAYERS, 8, 2, 1).of(0, 5)));
        edge("layers: 4 at most", () -> due("of(0,5)", 4, Houses.brim().of(0, 5)));
        for (int row : new int[] {0, 1, 3}) {
            edge("PUSHES: 0 of " + KINDS[row], () -> due("of(" + row + ",6)", 0, Houses.full().of(row, 6)));
        }
        pushesOfTheLatest();
    }

    private static void pushesOfTheLatest() {
        edge("PUSHES: 0 without a PUT", () -> due("of(0,6)", 0, alone(NESTS, 4, 2, 1).of(0, 6)));
        edge("PUSHES of the latest PUT", () -> due("of(2,6)", 2, Houses.full().of(2, 6)));
        edge("PUSHES: a PUT of one who was there isn't done", () -> {
            PerhapsRows x = Houses.full();
            due("put(2,4)", 1, x.put(2, 4));
            due("of(2,6)", 2, x.of(2, 6));
        });
        edge("PUSHES: a PUT that can't be isn't done", () -> {
            PerhapsRows x = Houses.full();
            due("put(2,8)", NONE, x.put(2, 8));
            due("of(2,6)", 2, x.of(2, 6));
        });
        edge("PUSHES: who is TAKEN doesn't count", () -> {
            PerhapsRows x = Houses.full();
            x.take(2, 0);
            due("of(2,6)", 2, x.of(2, 6));
        });
        edge("PUSHES: 0 by a PUT into a free slot of MARK 0", () -> {
            PerhapsRows x = Houses.full();
            putAll(x, 2, 3);
            due("of(2,6)", 0, x.of(2, 6));
        });
        edge("PUSHES: 0 by a PUT into a free slot of MARK 1", () -> {
            PerhapsRows x = Houses.full();
            putAll(x, 2, 12);
            due("12 in nest 3", 12, x.guest(2, 3, 0));
            due("of(2,6)", 0, x.of(2, 6));
        });
        edge("PUSHES behind GROWN: as it was if nobody is PUT", () -> {
            PerhapsRows x = Houses.brim();
            x.take(1, 0);
            x.take(1, 4);
            due("grow(1)", 4, x.grow(1));
            due("of(1,6)", 1, x.of(1, 6));
        });
        // 8 has the nests 0 1, 32 only 0, in 2 nests as in 4; by numbers 32 comes last
        edge("PUSHES behind GROWN: of the last who was PUT anew, more than it was", () -> {
            PerhapsRows x = homes(2, 1);
            putAll(x, 0, 32, 8);
            due("of(0,6)", 0, x.of(0, 6));
            due("grow(0)", 4, x.grow(0));
            due("of(0,6)", 1, x.of(0, 6));
        });
        edge("PUSHES behind GROWN: of the last who was PUT anew, fewer than it was", () -> {
            PerhapsRows x = homes(2, 1);
            putAll(x, 0, 8, 0);
            due("of(0,6)", 1, x.of(0, 6));
            due("grow(0)", 4, x.grow(0));
            due("of(0,6)", 0, x.of(0, 6));
        });
        // anew 1 2 pushes 2 0 out of nest 2, and 5 3, the last, nobody
        edge("PUSHES behind GROWN: of the last who was PUT anew, not of all", () -> {
            PerhapsRows x = homes(4, 1);
            putAll(x, 0, at(1, 1), at(2, 0), at(5, 3), at(1, 2));
            due("of(0,6)", 1, x.of(0, 6));
            due("grow(0)", 8, x.grow(0));
            nestsHave(x, at(2, 0), at(1, 1), at(1, 2), NONE, NONE, at(5, 3), NONE, NONE);
            due("of(0,6)", 0, x.of(0, 6));
        });
    }

    // ------------------------------------------------------------ 10, 11

    private static void placesOfRows() {
        about("promise 10");
        noRow((x, row) -> x.cell(row, 0));
        int[] places = {8, 8, 4, 6};
        for (int row = 0; row < 4; row++) {
            int at = row;
            for (int place : new int[] {-1, places[row], MIN, MAX}) {
                edge("no such PLACE of " + KINDS[row] + ": " + place, () -> refused(INDEX, x -> x.cell(at, place)));
            }
        }
        edge("no such PLACE of SOLVED", () -> {
            refused(INDEX, Houses::solved, x -> x.cell(0, -1));
            refused(INDEX, Houses::solved, x -> x.cell(0, 8));
        });
        edge("a ROW comes ahead of a PLACE", () -> refused(NO_SUCH, x -> x.cell(4, -1)));
        edge("the bit of the first and of the last PLACE", () -> {
            PerhapsRows x = alone(BITS, 64, 1, 0);
            due("cell(0,63)", 0, x.cell(0, 63));
            putAll(x, 0, 0);
            due("cell(0,0)", 1, x.cell(0, 0));
            due("cell(0,63)", 0, x.cell(0, 63));
        });
        edge("a bit that two put is 1", () -> {
            PerhapsRows x = Houses.full();
            putAll(x, 0, 9);
            due("cell(0,1)", 1, x.cell(0, 1));
        });
        edge("the count", () -> cells(Houses.full(), 1, 1, 3, 1, 0, 0, 1, 0, 0));
        edge("the guests of a nest, from none to all 4 slots", () -> {
            PerhapsRows x = alone(NESTS, 4, 2, 4);
            for (int i = 0; i < 4; i++) {
                due("cell(0,1)", i, x.cell(0, 1));
                x.put(0, 1 + 4 * i);
            }
            cells(x, 0, 0, 4, 0, 0);
        });
        edge("a nest whose first slot is free", () -> {
            PerhapsRows x = alone(NESTS, 4, 2, 2);
            putAll(x, 0, 1, 5);
            x.take(0, 1);
            due("cell(0,1)", 1, x.cell(0, 1));
        });
        edge("the cells of SOLVED", () -> cells(Houses.solved(), 0, 1, 2, 0, 0, 0, 0, 0, 0));
        edge("all layers laid one behind the other", () -> cells(Houses.full(), 3, 1, 1, 0, 0, 0, 1));
        edge("PLACES of one layer as long as there is one", () -> cells(alone(LAYERS, 3, 1, 1), 0, 0, 0, 0));
        edge("PLACES of four layers, the first of 1", () -> {
            // 3 in each of the sizes 1 2 4 8: 3 is put there, then 4, 5 and 6
            cells(Houses.brim(), 0, 1, 1, 0, 0, 1, 0, 0, 0, 0, 0, 0, 0, 0, 1, 0);
        });
        edge("PLACES of four layers, the first of 16", () -> {
            PerhapsRows x = told("world 256;mark name;");
            x.make(0, LAYERS, 16, 1, 1);
            putAll(x, 0, 15, 31, 63, 127);
            int[] last = {15, 47, 111, 239};
            for (int place = 0; place < 240; place++) {
                boolean one = place == last[0] || place == last[1] || place == last[2] || place == last[3];
                due("cell(0," + place + ")", one ? 1 : 0, x.cell(0, place));
            }
            thrown("cell(0,240)", INDEX, () -> x.cell(0, 240));
        });
    }

    private static void guests() {
        about("promise 11");
        noRow((x, row) -> x.guest(row, 0, 0));
        for (int row : new int[] {0, 1, 3}) {
            edge("it is of another KIND: " + KINDS[row], () -> refused(STATE, x -> x.guest(row, 0, 0)));
        }
        edge("it is of another KIND: SOLVED", () -> refused(STATE, Houses::solved, x -> x.guest(0, 0, 0)));
        for (int nest : new int[] {-1, 16, MIN, MAX}) {
            edge("no such nest: " + nest, () -> refused(INDEX, Houses::solved, x -> x.guest(2, nest, 0)));
        }
        for (int slot : new int[] {-1, 2, MIN, MAX}) {
            edge("no such slot: " + slot, () -> refused(INDEX, Houses::solved, x -> x.guest(2, 1, slot)));
        }
        edge("no such nest, though its size could be larger", () -> refused(INDEX, x -> x.guest(2, 4, 0)));
        edge("no such slot, though a nest could have more", () -> refused(INDEX, x -> x.guest(2, 0, 1)));
        edge("a ROW comes ahead of a nest", () -> refused(NO_SUCH, x -> x.guest(4, 99, 99)));
        edge("a KIND comes ahead of a nest", () -> refused(STATE, x -> x.guest(0, 99, 99)));
        edge("NONE: it is free", () -> due("guest(2,3,0)", NONE, Houses.full().guest(2, 3, 0)));
        edge("the guest 0 is one", () -> due("guest(2,0,0)", 0, Houses.full().guest(2, 0, 0)));
        edge("the last slot of the last nest, the last name", () -> {
            PerhapsRows x = told("world 256;mark 15;mark 15;");
            x.make(0, NESTS, 16, 2, 4);
            putAll(x, 0, 1, 2, 3, 255);
            due("guest(0,15,3)", 255, x.guest(0, 15, 3));
        });
    }

    // ------------------------------------------------------------ 12, 13

    private static void sayings() {
        about("promise 12");
        noRow((x, row) -> x.yes(row, 0));
        noName((x, name) -> x.yes(0, name));
        edge("a ROW comes ahead of a name", () -> refused(NO_SUCH, x -> x.yes(4, 16)));
        for (int kind : new int[] {BITS, COUNTS, NESTS, LAYERS}) {
            edge(KINDS[kind] + " in which nobody is say no to all", () -> {
                PerhapsRows x = alone(kind, 4, 2, fittingExtra(kind));
                for (int name = 0; name < 16; name++) {
                    due("yes(0," + name + ")", false, x.yes(0, name));
                }
            });
        }
        edge("SOLVED for nobody says yes to those whose TAG is 0", () -> {
            PerhapsRows x = alone(SOLVED, 4, 2, 0);
            for (int name = 0; name < 16; name++) {
                due("yes(0," + name + ")", name < 2, x.yes(0, name));
            }
        });
        edge("BITS: all PLACES, not only one of them", () -> {
            due("yes(0,9): 1 2", false, Houses.full().yes(0, 9));
            due("yes(0,0): 0 0", true, Houses.full().yes(0, 0));
        });
        edge("COUNTS: all are above 0", () -> {
            PerhapsRows x = Houses.full();
            due("yes(1,8): 0 2", true, x.yes(1, 8));
            x.take(1, 9);
            due("yes(1,8): 0 2", false, x.yes(1, 8));
        });
        edge("NESTS: a guest with the name's TAG in the nest of MARK 0", () -> {
            PerhapsRows x = alone(NESTS, 1, 2, 1);
            putAll(x, 0, 6);
            due("yes(0,7)", true, x.yes(0, 7));
            due("yes(0,8)", false, x.yes(0, 8));
        });
        edge("NESTS: in the nest of MARK 1", () -> {
            PerhapsRows x = alone(NESTS, 4, 2, 1);
            putAll(x, 0, 5);
            due("yes(0,4): TAG 2, nests 0 1", true, x.yes(0, 4));
        });
        edge("NESTS: one with the name's TAG in another nest is none", () -> {
            PerhapsRows x = alone(NESTS, 4, 2, 1);
            putAll(x, 0, 4);
            due("yes(0,5): TAG 2, nest 1", false, x.yes(0, 5));
        });
        edge("NESTS: in the last slot", () -> {
            PerhapsRows x = alone(NESTS, 1, 2, 4);
            putAll(x, 0, 0, 2, 4, 6);
            due("yes(0,7)", true, x.yes(0, 7));
        });
        // all have one TAG, and (first, second) are a name's nests
        String likeTags = "mark name%8;mark name/8;tag 1;";
        edge("NESTS: in that of MARK 0 or that of MARK 1, and in no other", () -> {
            PerhapsRows x = told(likeTags);
            x.make(0, NESTS, 8, 2, 1);
            putAll(x, 0, at(3, 5));
            due("MARK 0", true, x.yes(0, at(3, 6)));
            due("MARK 1", true, x.yes(0, at(6, 3)));
            due("where it could sit, too", false, x.yes(0, at(4, 5)));
            due("a nest ahead", false, x.yes(0, at(2, 2)));
            due("a nest behind", false, x.yes(0, at(4, 4)));
        });
        layersAndSolvedSay();
    }

    private static void layersAndSolvedSay() {
        edge("LAYERS: by any of them, each as BITS of its size", () -> {
            PerhapsRows x = alone(LAYERS, 2, 1, 1);
            putAll(x, 0, 1, 2);
            // 1 of 2 says yes to the odd ones, 2 of 4 to 2, 6, 10, 14
            for (int name = 0; name < 16; name++) {
                due("yes(0," + name + ")", name % 2 == 1 || name % 4 == 2, x.yes(0, name));
            }
        });
        edge("LAYERS: PLACES of two layers don't make one yes", () -> {
            PerhapsRows x = alone(LAYERS, 4, 2, 1);
            putAll(x, 0, 0, 4);
            // 0 of 4 alone; 4 and 1 of 8: neither has 5 (1 1 or 5 1)
            due("yes(0,0)", true, x.yes(0, 0));
            due("yes(0,4)", true, x.yes(0, 4));
            due("yes(0,5)", false, x.yes(0, 5));
            due("yes(0,1)", false, x.yes(0, 1));
        });
        edge("SOLVED: a cell at two PLACES falls out", () -> {
            PerhapsRows x = Houses.solved();
            due("yes(0,0): cell 0 twice, TAG 0", true, x.yes(0, 0));
            due("yes(0,10): cell 2 twice, TAG 5", false, x.yes(0, 10));
        });
        edge("SOLVED: bit by bit without carrying: 5 and 3 together are 6", () -> {
            PerhapsRows x = told("world 16;tags 64;mark name;mark 7-name/8*5;tag 7-name*2+name/8*17;");
            x.make(0, SOLVED, 8, 2, 0);
            // 1: cells 1 7, TAG 5; 2: cells 2 7, TAG 3; 9: cells 1 2, TAG 6
            fill(x, 0, 1, 2);
            due("solve(0,0)", 2, x.solve(0, 0));
            cells(x, 0, 0, 5, 3, 0, 0, 0, 0, 0);
            due("yes(0,9)", true, x.yes(0, 9));
            due("yes(0,10): cell 2 twice, TAG 4", false, x.yes(0, 10));
        });
        edge("SOLVED: bit by bit in equations, too", () -> {
            PerhapsRows x = told("world 16;tags 64;mark name;mark name+1;tag 7-name*2;");
            x.make(0, SOLVED, 4, 2, 0);
            // 1: cells 1 2, TAG 5; 2: cells 2 3, TAG 3
            fill(x, 0, 1, 2);
            due("solve(0,0)", 2, x.solve(0, 0));
            cells(x, 0, 0, 6, 3, 0);
        });
    }

    private static void whoIsPut() {
        about("promise 13");
        noRow((x, row) -> x.isPut(row, 0));
        noName((x, name) -> x.isPut(0, name));
        edge("a ROW comes ahead of a name", () -> refused(NO_SUCH, x -> x.isPut(4, 16)));
        edge("a name that is no PUT one, though the ROW says YES", () -> due("isPut(0,0)", false, Houses.full().isPut(0, 0)));
        edge("the first and the last name", () -> {
            PerhapsRows x = crowd();
            x.make(0, BITS, 1, 1, 0);
            for (int name : new int[] {0, 63, 64, 127, 128, 191, 192, 255}) {
                due("isPut(0," + name + ")", false, x.isPut(0, name));
                putAll(x, 0, name);
                due("isPut(0," + name + ")", true, x.isPut(0, name));
            }
            due("of(0,4)", 8, x.of(0, 4));
        });
        edge("each ROW knows for itself", () -> {
            due("isPut(0,9)", false, Houses.full().isPut(0, 9));
            due("isPut(1,9)", true, Houses.full().isPut(1, 9));
        });
    }

    // ------------------------------------------------------------ 14

    private static void putting() {
        about("promise 14");
        noRow((x, row) -> x.put(row, 0));
        for (int row : new int[] {0, 1, 2, 3}) {
            edge("no such name in " + KINDS[row], () -> {
                refused(ARGUMENT, x -> x.put(row, -1));
                refused(ARGUMENT, x -> x.put(row, 16));
                refused(ARGUMENT, x -> x.put(row, MIN));
                refused(ARGUMENT, x -> x.put(row, MAX));
            });
        }
        edge("SOLVED", () -> refused(STATE, Houses::solved, x -> x.put(0, 1)));
        edge("SOLVED, who is there", () -> refused(STATE, Houses::solved, x -> x.put(0, 2)));
        edge("a ROW comes ahead of a name", () -> refused(NO_SUCH, x -> x.put(4, 16)));
        edge("SOLVED comes ahead of a name", () -> refused(STATE, Houses::solved, x -> x.put(0, 16)));
        int[] there = {5, 9, 4, 2};
        for (int row = 0; row < 4; row++) {
            int at = row;
            edge("1: it was there already, in " + KINDS[row], () -> stays(1, Houses::full, x -> x.put(at, there[at])));
        }
        edge("NONE: it can't be in NESTS", () -> stays(NONE, Houses::full, x -> x.put(2, 8)));
        edge("NONE: it can't be in LAYERS", () -> stays(NONE, Houses::brim, x -> x.put(0, 7)));
        edge("1, not NONE, in NESTS that are full", () -> stays(1, Houses::brim, x -> x.put(1, 4)));
        edge("1, not NONE, in LAYERS that are full", () -> stays(1, Houses::brim, x -> x.put(0, 3)));
        edge("who was there is put anew behind being TAKEN", () -> {
            PerhapsRows x = Houses.full();
            x.take(1, 9);
            due("put(1,9)", 0, x.put(1, 9));
        });
        countsAreFull();
        layersAreFull();
    }

    private static void countsAreFull() {
        about("promise 14, COUNTS");
        edge("15 at most", () -> {
            PerhapsRows x = crowd();
            x.make(0, COUNTS, 2, 1, 0);
            for (int i = 0; i < 20; i++) {
                due("put(0," + i + ")", 0, x.put(0, i));
                due("cell(0,0)", Math.min(i + 1, 15), x.cell(0, 0));
            }
            due("all are PUT", 20, x.of(0, 4));
        });
        edge("MARK by MARK: a PLACE of two gets two", () -> {
            PerhapsRows x = crowd();
            x.make(0, COUNTS, 2, 2, 0);
            putAll(x, 0, 7);
            cells(x, 0, 2, 0);
        });
        edge("MARK by MARK: from 14 with two to 15", () -> {
            PerhapsRows x = crowd();
            x.make(0, COUNTS, 2, 2, 0);
            for (int i = 0; i < 7; i++) {
                x.put(0, i);
            }
            due("cell(0,0)", 14, x.cell(0, 0));
            putAll(x, 0, 7);
            due("cell(0,0)", 15, x.cell(0, 0));
        });
    }

    private static void layersAreFull() {
        about("promise 14, LAYERS");
        edge("no new layer before the latest took as many as it takes", () -> {
            PerhapsRows x = crowd();
            x.make(0, LAYERS, 16, 1, 20);
            for (int i = 0; i < 80; i++) {
                due("put(0," + i + ")", 0, x.put(0, i));
                due("layers", i / 20 + 1, x.of(0, 5));
            }
            due("the 81st", NONE, x.put(0, 80));
            due("layers", 4, x.of(0, 5));
            due("who is PUT", 80, x.of(0, 4));
        });
        edge("of 1 put each", () -> {
            PerhapsRows x = crowd();
            x.make(0, LAYERS, 1, 1, 1);
            for (int i = 0; i < 4; i++) {
                due("put(0," + i + ")", 0, x.put(0, i));
                due("layers", i + 1, x.of(0, 5));
            }
            due("the 5th", NONE, x.put(0, 4));
        });
        edge("who was there already is no put that a layer took", () -> {
            PerhapsRows x = alone(LAYERS, 2, 1, 2);
            putAll(x, 0, 1);
            for (int i = 0; i < 5; i++) {
                due("put(0,1)", 1, x.put(0, 1));
            }
            putAll(x, 0, 2);
            due("layers", 1, x.of(0, 5));
        });
        edge("a new layer has all its PLACES 0 but those put", () -> {
            PerhapsRows x = alone(LAYERS, 2, 1, 1);
            putAll(x, 0, 3, 6);
            cells(x, 0, 0, 1, 0, 0, 1, 0);
        });
    }

    /** In up to 8 nests a name has those of its rest by 8 and of its eighth. */
    private static PerhapsRows homes(int nests, int slots) {
        PerhapsRows x = told("world 64;mark name%8;mark name/8;");
        x.make(0, NESTS, nests, 2, slots);
        return x;
    }

    private static int at(int first, int second) {
        return second * 8 + first;
    }

    private static void nestsHave(PerhapsRows x, int... guests) {
        int slots = x.of(0, 3);
        for (int i = 0; i < guests.length; i++) {
            due("guest(0," + i / slots + "," + i % slots + ")", guests[i], x.guest(0, i / slots, i % slots));
        }
    }

    private static void nestsAreFree() {
        about("promise 14, NESTS");
        edge("into the first free slot of the nest of MARK 0", () -> {
            PerhapsRows x = homes(8, 3);
            putAll(x, 0, at(1, 2), at(1, 3));
            nestsHave(x, NONE, NONE, NONE, at(1, 2), at(1, 3), NONE);
        });
        edge("the first free slot may be ahead of guests", () -> {
            PerhapsRows x = homes(8, 3);
            putAll(x, 0, at(1, 2), at(1, 3), at(1, 4));
            x.take(0, at(1, 2));
            x.take(0, at(1, 3));
            putAll(x, 0, at(1, 5));
            nestsHave(x, NONE, NONE, NONE, at(1, 5), NONE, at(1, 4));
        });
        edge("else of MARK 1", () -> {
            PerhapsRows x = homes(8, 1);
            putAll(x, 0, at(0, 1), at(0, 2));
            nestsHave(x, at(0, 1), NONE, at(0, 2));
            due("PUSHES", 0, x.of(0, 6));
        });
        edge("all 64 slots are taken, one more can't be", () -> {
            PerhapsRows x = told("world 66;mark name%16;mark name%16;");
            x.make(0, NESTS, 16, 2, 4);
            for (int name = 0; name < 64; name++) {
                due("put(0," + name + ")", 0, x.put(0, name));
                due("guest", name, x.guest(0, name % 16, name / 16));
            }
            due("put(0,64)", NONE, x.put(0, 64));
            due("who is PUT", 64, x.of(0, 4));
        });
    }

    private static void nestsArePushed() {
        about("promise 14, NESTS from nest to nest");
        edge("first that of MARK 0", () -> {
            PerhapsRows x = homes(8, 1);
            putAll(x, 0, at(0, 2), at(1, 3), at(0, 1));
            nestsHave(x, at(0, 1), at(1, 3), at(0, 2), NONE);
            due("PUSHES", 1, x.of(0, 6));
        });
        edge("then that of MARK 1", () -> {
            PerhapsRows x = homes(8, 1);
            putAll(x, 0, at(0, 0), at(1, 3), at(0, 1));
            nestsHave(x, at(0, 0), at(0, 1), NONE, at(1, 3));
            due("PUSHES", 1, x.of(0, 6));
        });
        edge("that of MARK 1 ahead of one that is come to", () -> {
            PerhapsRows x = homes(8, 1);
            putAll(x, 0, at(0, 2), at(2, 4), at(1, 3), at(0, 1));
            nestsHave(x, at(0, 2), at(0, 1), at(2, 4), at(1, 3), NONE);
        });
        edge("then those that are come to, in the order in which they were", () -> {
            PerhapsRows x = homes(8, 1);
            putAll(x, 0, at(0, 2), at(1, 3), at(2, 4), at(3, 5), at(0, 1));
            nestsHave(x, at(0, 1), at(1, 3), at(0, 2), at(3, 5), at(2, 4), NONE);
            due("PUSHES", 2, x.of(0, 6));
        });
        // the guest of nest 0 has the other nest 1, which was come to as that of the new one's MARK 1
        edge("that of MARK 1 isn't come to by way of that of MARK 0", () -> {
            PerhapsRows x = homes(8, 1);
            putAll(x, 0, at(1, 3), at(1, 0), at(0, 1));
            nestsHave(x, at(1, 0), at(0, 1), NONE, at(1, 3));
            due("PUSHES", 1, x.of(0, 6));
        });
        edge("slot by slot: the first guest that can go", () -> {
            PerhapsRows x = homes(8, 2);
            putAll(x, 0, at(0, 2), at(0, 3), at(1, 1), at(1, 4), at(0, 1));
            nestsHave(x, at(0, 1), at(0, 3), at(1, 1), at(1, 4), at(0, 2), NONE, NONE, NONE);
        });
        edge("slot by slot: the second guest if the first can't", () -> {
            PerhapsRows x = homes(4, 2);
            putAll(x, 0, at(4, 0), at(0, 2), at(0, 4));
            nestsHave(x, at(4, 0), at(0, 4), NONE, NONE, at(0, 2), NONE);
            due("PUSHES", 1, x.of(0, 6));
        });
        edge("both MARKS of a guest are one: it has no other nest", () -> {
            PerhapsRows x = homes(4, 1);
            putAll(x, 0, at(0, 0));
            due("put", NONE, x.put(0, at(4, 4)));
        });
        edge("both MARKS of the new one are one", () -> {
            PerhapsRows x = homes(8, 1);
            putAll(x, 0, at(0, 1), at(0, 0));
            nestsHave(x, at(0, 0), at(0, 1));
            due("PUSHES", 1, x.of(0, 6));
        });
        edge("a guest in the nest of its MARK 1 goes to that of MARK 0", () -> {
            PerhapsRows x = homes(8, 1);
            putAll(x, 0, at(3, 3), at(3, 0));
            x.take(0, at(3, 3));
            putAll(x, 0, at(0, 0));
            nestsHave(x, at(0, 0), NONE, NONE, at(3, 0));
        });
        edge("guests of nests that aren't come to stay", () -> {
            PerhapsRows x = homes(4, 1);
            putAll(x, 0, at(0, 0), at(1, 3));
            due("put", NONE, x.put(0, at(4, 4)));
            nestsHave(x, at(0, 0), at(1, 3), NONE, NONE);
        });
        edge("a nest that was come to first isn't come to by another way", () -> {
            PerhapsRows x = homes(4, 2);
            putAll(x, 0, at(0, 1), at(0, 2), at(1, 0), at(1, 1), at(2, 3), at(2, 2));
            due("put", 0, x.put(0, at(4, 1)));
            nestsHave(x, at(0, 1), at(4, 1), at(1, 0), at(1, 1), at(0, 2), at(2, 2), at(2, 3), NONE);
            due("PUSHES", 2, x.of(0, 6));
        });
        edge("one PUT from nest to nest behind the other", () -> {
            PerhapsRows x = homes(8, 1);
            putAll(x, 0, at(0, 2));
            for (int i = 0; i < 20; i++) {
                int homeOfOne = i % 2 == 0 ? at(0, 0) : at(2, 2);
                putAll(x, 0, homeOfOne);
                due("PUSHES", 1, x.of(0, 6));
                due("where it went", at(0, 2), x.guest(0, i % 2 == 0 ? 2 : 0, 0));
                x.take(0, homeOfOne);
            }
        });
        pushesHaveEnds();
    }

    private static void pushesHaveEnds() {
        edge("it goes into the first free slot there: all are free", () -> {
            PerhapsRows x = homes(8, 2);
            putAll(x, 0, at(0, 2), at(0, 3), at(0, 0));
            nestsHave(x, at(0, 0), at(0, 3), NONE, NONE, at(0, 2), NONE);
        });
        edge("it goes into the first free slot there: behind a guest", () -> {
            PerhapsRows x = homes(8, 2);
            putAll(x, 0, at(2, 5), at(0, 2), at(0, 3), at(0, 0));
            nestsHave(x, at(0, 0), at(0, 3), NONE, NONE, at(2, 5), at(0, 2));
        });
        edge("it goes into the first free slot there: ahead of a guest", () -> {
            PerhapsRows x = homes(8, 2);
            putAll(x, 0, at(2, 5), at(2, 6), at(0, 2), at(0, 3));
            x.take(0, at(2, 5));
            putAll(x, 0, at(0, 0));
            nestsHave(x, at(0, 0), at(0, 3), NONE, NONE, at(0, 2), at(2, 6));
        });
        edge("who was pushed before it comes into its very slot", () -> {
            PerhapsRows x = homes(4, 2);
            // nest 0: 0, then 0 2; nest 2: 2, then 2 3
            putAll(x, 0, at(0, 0), at(0, 2), at(2, 2), at(2, 3), at(4, 0));
            nestsHave(x, at(0, 0), at(4, 0), NONE, NONE, at(2, 2), at(0, 2), at(2, 3), NONE);
            due("PUSHES", 2, x.of(0, 6));
        });
        edge("a chain through all 16 nests", () -> {
            PerhapsRows x = told("world 40;mark name%16;mark (name+1)*(1-name/16);");
            x.make(0, NESTS, 16, 2, 1);
            for (int name = 0; name < 15; name++) {
                putAll(x, 0, name);
            }
            due("put(0,16): 0 alone", 0, x.put(0, 16));
            due("PUSHES", 15, x.of(0, 6));
            due("guest(0,0,0)", 16, x.guest(0, 0, 0));
            for (int name = 0; name < 15; name++) {
                due("guest", name, x.guest(0, name + 1, 0));
            }
        });
        edge("nests that were come to aren't come to again", () -> {
            PerhapsRows x = homes(2, 1);
            putAll(x, 0, at(0, 1), at(1, 0));
            due("put", NONE, x.put(0, at(0, 3)));
            nestsHave(x, at(0, 1), at(1, 0));
        });
        edge("if none has, it isn't PUT", () -> {
            PerhapsRows x = homes(2, 1);
            putAll(x, 0, at(0, 1), at(1, 0));
            x.put(0, at(0, 3));
            due("isPut", false, x.isPut(0, at(0, 3)));
            due("who is PUT", 2, x.of(0, 4));
        });
    }

    // ------------------------------------------------------------ 15

    private static void taking() {
        about("promise 15");
        noRow((x, row) -> x.take(row, 0));
        for (int row : new int[] {1, 2}) {
            edge("no such name in " + KINDS[row], () -> {
                refused(ARGUMENT, x -> x.take(row, -1));
                refused(ARGUMENT, x -> x.take(row, 16));
                refused(ARGUMENT, x -> x.take(row, MIN));
                refused(ARGUMENT, x -> x.take(row, MAX));
            });
        }
        edge("out of BITS", () -> refused(STATE, x -> x.take(0, 1)));
        edge("out of LAYERS", () -> refused(STATE, x -> x.take(3, 1)));
        edge("out of SOLVED", () -> refused(STATE, Houses::solved, x -> x.take(0, 2)));
        edge("a ROW comes ahead of a name", () -> refused(NO_SUCH, x -> x.take(4, 16)));
        edge("a KIND comes ahead of a name", () -> refused(STATE, x -> x.take(0, 16)));
        edge("false: it wasn't PUT in COUNTS, though they say YES", () -> stays(false, Houses::full, x -> x.take(1, 8)));
        edge("false: it wasn't PUT in NESTS, though they say YES", () -> {
            due("yes(2,5)", true, Houses.full().yes(2, 5));
            stays(false, Houses::full, x -> x.take(2, 5));
        });
        edge("false: it was TAKEN before", () -> {
            PerhapsRows x = Houses.full();
            due("take(1,9)", true, x.take(1, 9));
            due("take(1,9)", false, x.take(1, 9));
            cells(x, 1, 1, 2, 0, 0, 0, 1, 0, 0);
        });
        edge("the slot of a guest is free then, the others stay", () -> {
            PerhapsRows x = homes(8, 3);
            putAll(x, 0, at(1, 2), at(1, 3), at(1, 4));
            due("take", true, x.take(0, at(1, 3)));
            nestsHave(x, NONE, NONE, NONE, at(1, 2), NONE, at(1, 4));
        });
        edge("a guest that was pushed is found", () -> {
            PerhapsRows x = Houses.full();
            due("take(2,9)", true, x.take(2, 9));
            due("guest(2,2,0)", NONE, x.guest(2, 2, 0));
        });
        edge("the guests of the first and of the last slot of all", () -> {
            PerhapsRows x = told("world 64;mark name/4;mark name/4;");
            x.make(0, NESTS, 16, 2, 4);
            for (int name = 0; name < 64; name++) {
                x.put(0, name);
            }
            due("take(0,0)", true, x.take(0, 0));
            due("take(0,63)", true, x.take(0, 63));
            due("guest(0,0,0)", NONE, x.guest(0, 0, 0));
            due("guest(0,0,1)", 1, x.guest(0, 0, 1));
            due("guest(0,15,3)", NONE, x.guest(0, 15, 3));
            due("guest(0,15,2)", 62, x.guest(0, 15, 2));
        });
        edge("names of the largest WORLD", () -> {
            for (int name : new int[] {0, 63, 64, 127, 128, 191, 192, 255}) {
                PerhapsRows x = crowd();
                x.make(0, COUNTS, 1, 1, 0);
                putAll(x, 0, name, 77);
                due("take(0," + name + ")", true, x.take(0, name));
                due("isPut(0," + name + ")", false, x.isPut(0, name));
                due("isPut(0,77)", true, x.isPut(0, 77));
            }
        });
        takenOfCounts();
    }

    private static void takenOfCounts() {
        edge("15 stays", () -> {
            PerhapsRows x = crowd();
            x.make(0, COUNTS, 2, 1, 0);
            for (int i = 0; i < 15; i++) {
                x.put(0, i);
            }
            for (int i = 0; i < 15; i++) {
                due("take(0," + i + ")", true, x.take(0, i));
                due("cell(0,0)", 15, x.cell(0, 0));
            }
            due("nobody is PUT", 0, x.of(0, 4));
            due("still yes(0,0)", true, x.yes(0, 0));
        });
        edge("14 becomes 13", () -> {
            PerhapsRows x = crowd();
            x.make(0, COUNTS, 2, 1, 0);
            for (int i = 0; i < 14; i++) {
                x.put(0, i);
            }
            x.take(0, 0);
            due("cell(0,0)", 13, x.cell(0, 0));
        });
        edge("MARK by MARK: a PLACE of two loses two", () -> {
            PerhapsRows x = crowd();
            x.make(0, COUNTS, 2, 2, 0);
            putAll(x, 0, 7, 8);
            x.take(0, 7);
            cells(x, 0, 2, 0);
        });
        // by the size 8 the PLACE is 5, by 4 it is 2
        edge("0 stays", () -> {
            PerhapsRows x = told("mark 5*(size/8)+2*(1-size/8);");
            x.make(0, COUNTS, 8, 1, 0);
            putAll(x, 0, 7);
            x.halve(0);
            cells(x, 0, 0, 1, 0, 0);
            due("take(0,7)", true, x.take(0, 7));
            cells(x, 0, 0, 1, 0, 0);
            due("who is PUT", 0, x.of(0, 4));
        });
        edge("1 becomes 0 and stays, MARK by MARK", () -> {
            PerhapsRows x = told("mark 5;mark 1+size/8;");
            x.make(0, COUNTS, 8, 2, 0);
            putAll(x, 0, 7);
            x.halve(0);
            cells(x, 0, 0, 1, 1, 0);
            due("take(0,7): 1 1", true, x.take(0, 7));
            cells(x, 0, 0, 0, 1, 0);
        });
    }

    // ------------------------------------------------------------ 16 to 18

    private static PerhapsRows pair(int kind, int size, int marks, int otherKind, int otherSize, int otherMarks) {
        PerhapsRows x = told(Houses.FOUR_MARKS);
        x.make(0, kind, size, marks, fittingExtra(kind));
        x.make(1, otherKind, otherSize, otherMarks, fittingExtra(otherKind));
        if (kind != SOLVED && otherKind != SOLVED) {
            x.put(0, 1);
            x.put(1, 6);
        }
        return x;
    }

    private static void joining() {
        about("promise 16");
        noRow((x, row) -> x.join(row, 0));
        about("promise 16, the other");
        noRow((x, row) -> x.join(0, row));
        about("promise 16");
        for (int kind : new int[] {NESTS, LAYERS, SOLVED}) {
            edge("not of one KIND that can be: " + KINDS[kind], () -> refused(STATE,
                    () -> pair(kind, 8, 2, kind, 8, 2), x -> x.join(0, 1)));
            edge("a KIND that can't be comes ahead of both being one: " + KINDS[kind], () -> refused(STATE,
                    () -> pair(kind, 8, 2, kind, 8, 2), x -> x.join(0, 0)));
        }
        edge("BITS with COUNTS", () -> refused(STATE, () -> pair(BITS, 8, 2, COUNTS, 8, 2), x -> x.join(0, 1)));
        edge("COUNTS with BITS", () -> refused(STATE, () -> pair(BITS, 8, 2, COUNTS, 8, 2), x -> x.join(1, 0)));
        edge("BITS with SOLVED", () -> refused(STATE, () -> pair(BITS, 8, 2, SOLVED, 8, 2), x -> x.join(0, 1)));
        for (int kind : new int[] {BITS, COUNTS}) {
            edge("unlike SIZE of " + KINDS[kind], () -> refused(STATE, () -> pair(kind, 8, 2, kind, 4, 2), x -> x.join(0, 1)));
            edge("unlike MARKS of " + KINDS[kind], () -> refused(STATE, () -> pair(kind, 8, 2, kind, 8, 1), x -> x.join(0, 1)));
            edge("both are one: " + KINDS[kind], () -> refused(ARGUMENT, () -> pair(kind, 8, 2, kind, 8, 2), x -> x.join(1, 1)));
            edge("the other stays: " + KINDS[kind], () -> unchanged(() -> pair(kind, 8, 2, kind, 8, 2),
                    x -> x.join(0, 1), Look.allBut(Look.ROW)));
        }
        edge("a ROW that is none comes ahead of a KIND that can't be", () -> {
            refused(NO_SUCH, x -> x.join(2, 4));
            refused(NO_SUCH, x -> x.join(4, 2));
        });
        edge("a ROW that isn't there comes ahead of both being one", () -> refused(NO_SUCH, Houses::brim, x -> x.join(3, 3)));
        joined();
    }

    private static void joined() {
        edge("bits: 1 if one is", () -> {
            PerhapsRows x = pair(BITS, 8, 2, BITS, 8, 2);
            putAll(x, 1, 5);
            // 1: 1 0; 6: 6 1; 5: 5 1
            due("join(0,1)", 3, x.join(0, 1));
            cells(x, 0, 1, 1, 0, 0, 0, 1, 1, 0);
        });
        edge("who is PUT in both counts once", () -> {
            PerhapsRows x = pair(BITS, 8, 2, BITS, 8, 2);
            putAll(x, 1, 1);
            due("join(0,1)", 2, x.join(0, 1));
        });
        edge("counts: together", () -> {
            PerhapsRows x = pair(COUNTS, 8, 2, COUNTS, 8, 2);
            putAll(x, 1, 1);
            due("join(0,1)", 2, x.join(0, 1));
            cells(x, 0, 2, 3, 0, 0, 0, 0, 1, 0);
        });
        for (int more : new int[] {6, 7, 8, 15}) {
            edge("counts: 15 at most, of 8 and " + more, () -> {
                PerhapsRows x = crowd();
                x.make(0, COUNTS, 1, 1, 0);
                x.make(1, COUNTS, 1, 1, 0);
                for (int i = 0; i < 8; i++) {
                    x.put(0, i);
                }
                for (int i = 0; i < more; i++) {
                    x.put(1, 20 + i);
                }
                due("join(0,1)", 8 + more, x.join(0, 1));
                due("cell(0,0)", Math.min(8 + more, 15), x.cell(0, 0));
                due("cell(1,0)", more, x.cell(1, 0));
            });
        }
        edge("nobody is PUT in either", () -> {
            PerhapsRows x = told(PLAIN);
            x.make(0, BITS, 4, 2, 0);
            x.make(3, BITS, 4, 2, 0);
            due("join(0,3)", 0, x.join(0, 3));
            cells(x, 0, 0, 0, 0, 0);
        });
        edge("of the last PLACE of 64", () -> {
            PerhapsRows x = told("world 64;mark name;");
            x.make(0, BITS, 64, 1, 0);
            x.make(1, BITS, 64, 1, 0);
            putAll(x, 1, 63);
            x.join(0, 1);
            due("cell(0,63)", 1, x.cell(0, 63));
        });
    }

    private static void halving() {
        about("promise 17");
        noRow((x, row) -> x.halve(row));
        edge("NESTS", () -> refused(STATE, x -> x.halve(2)));
        edge("LAYERS", () -> refused(STATE, x -> x.halve(3)));
        edge("SOLVED", () -> refused(STATE, Houses::solved, x -> x.halve(0)));
        edge("an odd SIZE of BITS", () -> refused(STATE, Houses::solved, x -> x.halve(1)));
        edge("an odd SIZE of COUNTS", () -> refused(STATE, () -> pair(COUNTS, 9, 1, COUNTS, 1, 1), x -> x.halve(0)));
        edge("the SIZE 1", () -> refused(STATE, () -> pair(COUNTS, 9, 1, COUNTS, 1, 1), x -> x.halve(1)));
        edge("the SIZE 2", () -> {
            PerhapsRows x = pair(BITS, 2, 1, BITS, 2, 1);
            due("halve(0)", 1, x.halve(0));
            cells(x, 0, 1);
            due("of(0,1)", 1, x.of(0, 1));
        });
        edge("the SIZE 64", () -> {
            PerhapsRows x = told("world 64;mark name;");
            x.make(0, BITS, 64, 1, 0);
            putAll(x, 0, 63);
            due("halve(0)", 32, x.halve(0));
            due("cell(0,31)", 1, x.cell(0, 31));
            thrown("cell(0,32)", INDEX, () -> x.cell(0, 32));
        });
        edge("an even SIZE whose half is odd, once", () -> {
            PerhapsRows x = pair(BITS, 6, 1, BITS, 6, 1);
            due("halve(0)", 3, x.halve(0));
            thrown("halve(0)", STATE, () -> x.halve(0));
            due("of(0,1)", 3, x.of(0, 1));
        });
        halved();
    }

    private static void halved() {
        edge("bits: 1 if one is", () -> {
            PerhapsRows x = told("world 64;mark name;");
            x.make(0, BITS, 8, 1, 0);
            putAll(x, 0, 1, 5, 2, 7);
            due("halve(0)", 4, x.halve(0));
            cells(x, 0, 0, 1, 1, 1);
            due("who is PUT", 4, x.of(0, 4));
        });
        edge("counts: together", () -> {
            PerhapsRows x = Houses.full();
            due("halve(1)", 4, x.halve(1));
            cells(x, 1, 1, 4, 1, 0);
            due("who is PUT", 3, x.of(1, 4));
        });
        for (int more : new int[] {6, 7, 8, 15}) {
            edge("counts: 15 at most, of 8 and " + more, () -> {
                PerhapsRows x = told("world 40;mark name/20;");
                x.make(0, COUNTS, 2, 1, 0);
                for (int i = 0; i < 8; i++) {
                    x.put(0, i);
                }
                for (int i = 0; i < more; i++) {
                    x.put(0, 20 + i);
                }
                due("halve(0)", 1, x.halve(0));
                cells(x, 0, Math.min(8 + more, 15));
            });
        }
        edge("it is joined by the SIZE it has now", () -> {
            PerhapsRows x = pair(BITS, 8, 2, BITS, 4, 2);
            x.halve(0);
            // 1: 1 0; 6: 2 1
            due("join(0,1)", 2, x.join(0, 1));
            cells(x, 0, 1, 1, 1, 0);
        });
        edge("PLACES behind the half are none any more", () -> {
            PerhapsRows x = told("world 64;mark name;");
            x.make(0, BITS, 8, 1, 0);
            putAll(x, 0, 7);
            x.halve(0);
            due("yes(0,7)", true, x.yes(0, 7));
            due("yes(0,3)", true, x.yes(0, 3));
            due("halve(0)", 2, x.halve(0));
            cells(x, 0, 0, 1);
        });
    }

    private static void growing() {
        about("promise 18");
        noRow((x, row) -> x.grow(row));
        for (int row : new int[] {0, 1, 3}) {
            edge("another KIND: " + KINDS[row], () -> refused(STATE, x -> x.grow(row)));
        }
        edge("another KIND: SOLVED", () -> refused(STATE, Houses::solved, x -> x.grow(0)));
        edge("more than 8 nests: 16", () -> refused(STATE, Houses::solved, x -> x.grow(2)));
        edge("more than 8 nests: 9", () -> refused(STATE, () -> alone(NESTS, 9, 2, 4), x -> x.grow(0)));
        edge("8 nests of 4 slots", () -> {
            PerhapsRows x = alone(NESTS, 8, 2, 4);
            putAll(x, 0, 7, 15);
            due("grow(0)", 16, x.grow(0));
            due("of(0,1)", 16, x.of(0, 1));
            due("guest(0,7,0)", 7, x.guest(0, 7, 0));
            due("guest(0,15,0)", 15, x.guest(0, 15, 0));
            due("cell(0,15)", 1, x.cell(0, 15));
        });
        edge("1 nest", () -> {
            PerhapsRows x = homes(1, 1);
            putAll(x, 0, at(1, 0));
            due("grow(0)", 2, x.grow(0));
            nestsHave(x, NONE, at(1, 0));
        });
        edge("nobody is PUT", () -> {
            PerhapsRows x = homes(4, 1);
            due("grow(0)", 8, x.grow(0));
            cells(x, 0, 0, 0, 0, 0, 0, 0, 0, 0);
        });
        grown();
    }

    private static void grown() {
        edge("all guests are PUT anew, by numbers", () -> {
            PerhapsRows x = homes(2, 2);
            putAll(x, 0, at(2, 1), at(2, 0));
            nestsHave(x, at(2, 1), at(2, 0), NONE, NONE);
            due("grow(0)", 4, x.grow(0));
            nestsHave(x, NONE, NONE, NONE, NONE, at(2, 0), at(2, 1), NONE, NONE);
            due("who is PUT", 2, x.of(0, 4));
        });
        edge("guests that were pushed come to the nest of MARK 0 anew", () -> {
            PerhapsRows x = homes(2, 1);
            putAll(x, 0, at(2, 1), at(0, 0));
            nestsHave(x, at(0, 0), at(2, 1));
            due("grow(0)", 4, x.grow(0));
            nestsHave(x, at(0, 0), NONE, at(2, 1), NONE);
        });
        // in 2 nests a name is in that of its rest, or of its half's; in 4 nests all are in nest 0
        String narrow = "mark name*((4-size)/2);mark name/2*((4-size)/2);";
        House stuck = () -> {
            PerhapsRows x = told(narrow);
            x.make(0, NESTS, 2, 2, 1);
            x.put(0, 2);
            x.put(0, 0);
            return x;
        };
        edge("NONE: one can't, and all stays", () -> {
            due("PUSHES", 1, stuck.build().of(0, 6));
            due("guest(0,1,0)", 2, stuck.build().guest(0, 1, 0));
            stays(NONE, stuck, x -> x.grow(0));
        });
        edge("NONE: guests that came into another's slot are where they were", () -> {
            House house = () -> {
                PerhapsRows x = told(narrow);
                x.make(0, NESTS, 2, 2, 1);
                x.put(0, 2);
                x.put(0, 1);
                return x;
            };
            due("guest(0,0,0)", 2, house.build().guest(0, 0, 0));
            stays(NONE, house, x -> x.grow(0));
        });
        edge("behind NONE it can be when there is room", () -> {
            PerhapsRows x = stuck.build();
            x.grow(0);
            x.take(0, 2);
            due("grow(0)", 4, x.grow(0));
            nestsHave(x, 0, NONE, NONE, NONE);
        });
        edge("NONE with 8 nests of 4 slots that are full: all stays", () -> {
            House house = () -> {
                PerhapsRows x = told("mark name*(2-size/8);mark name*(2-size/8);");
                x.make(0, NESTS, 8, 2, 4);
                for (int name = 0; name < 32; name++) {
                    x.put(0, name);
                }
                return x;
            };
            due("who is PUT", 32, house.build().of(0, 4));
            stays(NONE, house, x -> x.grow(0));
        });
    }

    // ------------------------------------------------------------ 19

    private static PerhapsRows solvedWith(long... numbers) {
        PerhapsRows x = Houses.solved();
        fill(x, 0, numbers);
        return x;
    }

    private static void solving() {
        about("promise 19");
        noRow((x, row) -> x.solve(row, 0));
        for (int tray : NONE_OF_FOUR) {
            edge("no such TRAY: " + tray, () -> refused(NO_SUCH, Houses::solved, x -> x.solve(0, tray)));
        }
        for (int row : new int[] {0, 1, 2, 3}) {
            edge("another KIND: " + KINDS[row], () -> refused(STATE, x -> x.solve(row, 2)));
        }
        edge("the TRAY is MISSING", () -> refused(STATE, Houses::solved, x -> x.solve(0, 3)));
        for (long number : new long[] {-1, 16, 256, TWO_TO_32, TWO_TO_32 + 3, -TWO_TO_32, Long.MIN_VALUE, Long.MAX_VALUE}) {
            edge("a number that is no name: " + number, () -> {
                refused(ARGUMENT, () -> solvedWith(1, number), x -> x.solve(0, 0));
                refused(ARGUMENT, () -> solvedWith(number, 1), x -> x.solve(0, 0));
            });
        }
        edge("two alike", () -> refused(ARGUMENT, () -> solvedWith(4, 4), x -> x.solve(0, 0)));
        edge("two alike, the first and the last of 40 places", () -> refused(ARGUMENT, EdgesRowsTest::endsAlike, x -> x.solve(0, 0)));
        edge("two alike, the last of 40 places", () -> refused(ARGUMENT, EdgesRowsTest::lastAlike, x -> x.solve(0, 0)));
        edge("a ROW comes ahead of a TRAY", () -> refused(NO_SUCH, x -> x.solve(4, 3)));
        edge("a TRAY comes ahead of a KIND", () -> refused(NO_SUCH, x -> x.solve(0, 4)));
        edge("a KIND comes ahead of a number", () -> refused(STATE, x -> x.solve(0, 0)));
        edge("NONE: an equation without a cell asks for something", () -> stays(NONE, () -> solvedWith(10), x -> x.solve(0, 0)));
        edge("NONE: it does so behind others", () -> stays(NONE, () -> solvedWith(1, 6, 10), x -> x.solve(0, 0)));
        edge("NONE: it comes to hold none when it is joined", () -> {
            House house = () -> {
                PerhapsRows x = told("mark 3;tag name;");
                x.make(0, SOLVED, 4, 1, 0);
                fill(x, 1, 9);
                x.solve(0, 1);
                fill(x, 0, 6, 7);
                return x;
            };
            due("cell(0,3)", 9, house.build().cell(0, 3));
            stays(NONE, house, x -> x.solve(0, 0));
        });
        solvedFor();
    }

    private static PerhapsRows wide(long first, long last) {
        PerhapsRows x = told("world 64;mark name;");
        x.make(0, SOLVED, 64, 1, 0);
        x.tray(0, 1, 40);
        for (int i = 1; i < 39; i++) {
            x.write(0, i, i);
        }
        x.write(0, 0, first);
        x.write(0, 39, last);
        return x;
    }

    private static PerhapsRows endsAlike() {
        return wide(63, 63);
    }

    private static PerhapsRows lastAlike() {
        return wide(63, 38);
    }

    private static void solvedFor() {
        edge("for nobody: all cells are 0, nobody is PUT", () -> {
            PerhapsRows x = Houses.solved();
            due("solve(0,2)", 0, x.solve(0, 2));
            cells(x, 0, 0, 0, 0, 0, 0, 0, 0, 0);
            due("of(0,4)", 0, x.of(0, 4));
        });
        edge("for other names: who was PUT isn't", () -> {
            PerhapsRows x = solvedWith(6);
            due("solve(0,0)", 1, x.solve(0, 0));
            // 6: cells 6 and 1, TAG 3; the first cell that it holds is what it asks for
            cells(x, 0, 0, 3, 0, 0, 0, 0, 0, 0);
            due("isPut(0,6)", true, x.isPut(0, 6));
            due("isPut(0,2)", false, x.isPut(0, 2));
            due("of(0,4)", 1, x.of(0, 4));
        });
        edge("an equation without a cell that asks for nothing", () -> {
            PerhapsRows x = solvedWith(0);
            due("solve(0,0)", 1, x.solve(0, 0));
            cells(x, 0, 0, 0, 0, 0, 0, 0, 0, 0);
            due("isPut(0,0)", true, x.isPut(0, 0));
        });
        edge("one that comes to ask for nothing when it is joined", () -> {
            PerhapsRows x = told("mark 3;tag 7;");
            x.make(0, SOLVED, 4, 1, 0);
            fill(x, 0, 6, 7);
            due("solve(0,0)", 2, x.solve(0, 0));
            cells(x, 0, 0, 0, 0, 7);
        });
        edge("a cell that is there three times stays once", () -> {
            PerhapsRows x = told("mark 2;mark 2;mark 2;tag 5;");
            x.make(0, SOLVED, 4, 3, 0);
            fill(x, 0, 6);
            due("solve(0,0)", 1, x.solve(0, 0));
            cells(x, 0, 0, 0, 5, 0);
        });
        edge("40 names in 64 cells", () -> {
            PerhapsRows x = wide(0, 63);
            due("solve(0,0)", 40, x.solve(0, 0));
            for (int cell = 0; cell < 64; cell++) {
                due("cell(0," + cell + ")", cell < 39 || cell == 63 ? cell % 16 : 0, x.cell(0, cell));
            }
        });
        edge("40 names that hang on one another", EdgesRowsTest::solvedChain);
        edge("one cell", () -> {
            PerhapsRows x = told("mark name;");
            x.make(0, SOLVED, 1, 1, 0);
            fill(x, 0, 9);
            due("solve(0,0)", 1, x.solve(0, 0));
            cells(x, 0, 9);
        });
        edge("the other rows and the TRAY stay", () -> unchanged(() -> solvedWith(6), x -> x.solve(0, 0),
                Look.allBut(Look.ROW)));
    }

    /** Name n has the cells n and n+1: cell n is what n and all behind it ask for, together. */
    private static void solvedChain() {
        PerhapsRows x = told("world 40;tags 64;mark name;mark name+1;tag name*5;");
        x.make(0, SOLVED, 64, 2, 0);
        x.tray(0, 1, 40);
        for (int i = 0; i < 40; i++) {
            x.write(0, i, 39 - i);
        }
        due("solve(0,0)", 40, x.solve(0, 0));
        int together = 0;
        for (int cell = 63; cell >= 0; cell--) {
            together ^= cell < 40 ? cell * 5 % 64 : 0;
            due("cell(0," + cell + ")", together, x.cell(0, cell));
        }
        for (int name = 0; name < 40; name++) {
            due("yes(0," + name + ")", true, x.yes(0, name));
        }
    }

    public static void main(String[] args) {
        makeSizes();
        makeMarks();
        makeExtras();
        making();
        numbersOfRows();
        placesOfRows();
        guests();
        sayings();
        whoIsPut();
        putting();
        nestsAreFree();
        nestsArePushed();
        taking();
        joining();
        halving();
        growing();
        solving();
        report("the edges of the rows");
    }
}
