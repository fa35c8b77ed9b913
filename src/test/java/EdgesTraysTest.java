/** The boundaries that the document names in TRAYS, IMAGES and in promises 32 to 37, each in an edge of its own. */
public final class EdgesTraysTest extends Checks {
    private static final int[] NONE_OF_THREE = {-1, 3, 4, 32, MIN, MAX};

    private EdgesTraysTest() {
    }

    // ------------------------------------------------------------ 32

    private static void trays() {
        about("promise 32");
        for (int tray : NONE_OF_FOUR) {
            edge("no such TRAY: " + tray, () -> refused(NO_SUCH, x -> x.tray(tray, 0, 1)));
        }
        for (int sort : NONE_OF_FOUR) {
            edge("no such sort: " + sort, () -> refused(ARGUMENT, x -> x.tray(0, sort, 1)));
        }
        for (int many : new int[] {-1, 41, MIN, MAX}) {
            edge("not so many: " + many, () -> refused(ARGUMENT, x -> x.tray(0, 0, many)));
        }
        edge("one that is MISSING stays so", () -> refused(ARGUMENT, x -> x.tray(3, 4, 41)));
        edge("a TRAY comes ahead of a sort", () -> refused(NO_SUCH, x -> x.tray(4, 4, 1)));
        edge("a TRAY comes ahead of how many", () -> refused(NO_SUCH, x -> x.tray(4, 0, 41)));
        edge("TRAYS 0 to 3, sorts 0 to 3", () -> {
            PerhapsRows x = Houses.empty();
            for (int i = 0; i < 4; i++) {
                x.tray(i, i, 1);
                due("write(" + i + ",0,7)", 7, x.write(i, 0, 7));
            }
        });
        edge("0 numbers", () -> {
            PerhapsRows x = Houses.full();
            x.tray(3, 0, 0);
            due("pour(0,3)", 0, x.pour(0, 3));
            thrown("write(3,0,0)", INDEX, () -> x.write(3, 0, 0));
        });
        edge("40 numbers", () -> {
            PerhapsRows x = Houses.full();
            x.tray(3, 0, 40);
            due("pour(0,3)", 40, x.pour(0, 3));
            due("write(3,39,5)", 5, x.write(3, 39, 5));
            thrown("write(3,40,0)", INDEX, () -> x.write(3, 40, 0));
        });
        edge("so many 0s, in place of other numbers", () -> {
            PerhapsRows x = Houses.full();
            x.tray(0, 0, 3);
            x.make(0, 0, 8, 1, 0);
            due("pour(0,0)", 3, x.pour(0, 0));
            due("only 0 is PUT", 1, x.of(0, 4));
            due("isPut(0,0)", true, x.isPut(0, 0));
        });
        edge("another sort, in place of one", () -> {
            PerhapsRows x = Houses.full();
            x.tray(0, 0, 1);
            due("write of 8 bits", 1, x.write(0, 0, 257));
            x.tray(0, 1, 1);
            due("write of 16 bits", 257, x.write(0, 0, 257));
        });
        edge("all else stays", () -> unchanged(Houses::full, x -> x.tray(3, 0, 40), Look.allBut(Look.TRAY + 3)));
    }

    // ------------------------------------------------------------ 33

    private static void written(int sort, long number, long want) {
        edge("cut to its sort " + sort + ": " + number, () -> {
            PerhapsRows x = Houses.empty();
            x.tray(2, sort, 1);
            due("write", want, x.write(2, 0, number));
        });
    }

    private static void writing() {
        about("promise 33");
        for (int tray : NONE_OF_FOUR) {
            edge("no such TRAY: " + tray, () -> refused(NO_SUCH, x -> x.write(tray, 0, 7)));
        }
        edge("it is MISSING", () -> refused(STATE, x -> x.write(3, 0, 7)));
        for (int place : new int[] {-1, 3, 40, MIN, MAX}) {
            edge("no such place of 3: " + place, () -> refused(INDEX, x -> x.write(0, place, 7)));
        }
        edge("no such place of an empty one", () -> refused(INDEX, x -> x.write(2, 0, 7)));
        edge("a TRAY comes ahead of a place", () -> refused(NO_SUCH, x -> x.write(4, -1, 7)));
        edge("MISSING comes ahead of a place", () -> refused(STATE, x -> x.write(3, -1, 7)));
        edge("the first and the last place", () -> {
            PerhapsRows x = Houses.full();
            x.make(0, 0, 8, 1, 0);
            due("write(0,0,3)", 3, x.write(0, 0, 3));
            due("write(0,2,6)", 6, x.write(0, 2, 6));
            due("pour(0,0)", 3, x.pour(0, 0));
            due("3 9 6 are PUT", true, x.isPut(0, 3) && x.isPut(0, 9) && x.isPut(0, 6));
        });
        for (int sort = 0; sort < 4; sort++) {
            long half = 1L << (8 << sort) - 1;
            written(sort, 0, 0);
            written(sort, half - 1, half - 1);
            written(sort, -half, -half);
            if (sort < 3) {
                written(sort, half, -half);
                written(sort, -half - 1, half - 1);
                written(sort, 2 * half, 0);
                written(sort, 2 * half - 1, -1);
                written(sort, 2 * half + 5, 5);
            }
            written(sort, -1, -1);
        }
        written(0, Long.MAX_VALUE, -1);
        written(1, Long.MIN_VALUE, 0);
        edge("what is there is the number that was cut", () -> {
            PerhapsRows x = Houses.full();
            x.make(0, 0, 8, 1, 0);
            x.tray(0, 0, 1);
            x.write(0, 0, 256 + 9);
            due("pour(0,0)", 1, x.pour(0, 0));
            due("isPut(0,9)", true, x.isPut(0, 9));
        });
        edge("all else stays", () -> unchanged(Houses::full, x -> x.write(0, 0, 7), Look.allBut(Look.TRAY)));
    }

    // ------------------------------------------------------------ 34

    private static PerhapsRows bitsAndTray(long... numbers) {
        PerhapsRows x = Houses.full();
        fill(x, 0, numbers);
        return x;
    }

    private static void poured(String sentence, int many, String put, long... numbers) {
        edge(sentence, () -> {
            PerhapsRows x = bitsAndTray(numbers);
            due("pour(0,0)", many, x.pour(0, 0));
            StringBuilder names = new StringBuilder();
            for (int name = 0; name < 16; name++) {
                names.append(x.isPut(0, name) ? name + " " : "");
            }
            due("who is PUT", put, names.toString().trim());
        });
    }

    private static void pouring() {
        about("promise 34");
        noRow((x, row) -> x.pour(row, 0));
        for (int tray : NONE_OF_FOUR) {
            edge("no such TRAY: " + tray, () -> refused(NO_SUCH, x -> x.pour(0, tray)));
        }
        edge("SOLVED", () -> refused(STATE, Houses::solved, x -> x.pour(0, 0)));
        edge("SOLVED, an empty TRAY", () -> refused(STATE, Houses::solved, x -> x.pour(0, 2)));
        edge("MISSING", () -> refused(STATE, x -> x.pour(0, 3)));
        edge("a ROW comes ahead of MISSING", () -> refused(NO_SUCH, x -> x.pour(4, 3)));
        edge("a TRAY comes ahead of SOLVED", () -> refused(NO_SUCH, Houses::solved, x -> x.pour(0, 4)));
        poured("an empty TRAY", 0, "1 5");
        poured("all of them", 3, "1 2 3 5 15", 2, 15, 3);
        poured("those that were there already count", 4, "1 5 7", 5, 7, 1, 7);
        poured("till one is no name: the first", 0, "1 5", -1, 2);
        poured("till one is no name: WORLD", 1, "1 2 5", 2, 16, 3);
        poured("till one is no name: what is one by its lower half", 1, "1 2 5", 2, TWO_TO_32 + 3, 3);
        poured("till one is no name: the least number", 1, "1 2 5", 2, Long.MIN_VALUE, 3);
        poured("till one is no name: the greatest number", 1, "1 2 5", 2, Long.MAX_VALUE, 3);
        poured("till one is no name: the last", 2, "1 2 3 5", 2, 3, 16);
        edge("40 numbers", () -> {
            PerhapsRows x = told("world 64;mark name;");
            x.make(0, 1, 8, 1, 0);
            x.tray(0, 0, 40);
            for (int i = 0; i < 40; i++) {
                x.write(0, i, 63 - i);
            }
            due("pour(0,0)", 40, x.pour(0, 0));
            due("of(0,4)", 40, x.of(0, 4));
            due("cell(0,0)", 5, x.cell(0, 0));
        });
        edge("till one can't be in NESTS: those behind aren't PUT", () -> {
            PerhapsRows x = bitsAndTray(4, 8, 3);
            due("pour(2,0)", 1, x.pour(2, 0));
            due("isPut(2,3)", false, x.isPut(2, 3));
        });
        edge("till one can't be in NESTS: one behind another that can", () -> {
            PerhapsRows x = bitsAndTray(3, 7, 2);
            due("pour(2,0)", 1, x.pour(2, 0));
            due("guest(2,3,0)", 3, x.guest(2, 3, 0));
        });
        edge("till one can't be in LAYERS: those there already count ahead of it", () -> {
            PerhapsRows x = Houses.brim();
            fill(x, 0, 6, 5, 7, 4);
            due("pour(0,0)", 2, x.pour(0, 0));
        });
        edge("a new layer comes while it is poured", () -> {
            PerhapsRows x = bitsAndTray(4, 5, 6);
            due("pour(3,0)", 3, x.pour(3, 0));
            due("of(3,5)", 3, x.of(3, 5));
        });
        edge("the TRAY stays", () -> unchanged(() -> bitsAndTray(2, 3), x -> x.pour(0, 0),
                Look.allBut(Look.ROW)));
    }

    // ------------------------------------------------------------ 35, 36

    private static void images() {
        about("promise 35");
        for (int i : NONE_OF_THREE) {
            edge("no such IMAGE: " + i, () -> refused(NO_SUCH, x -> x.image(i)));
        }
        edge("nothing else changes", () -> unchanged(Houses::full, x -> x.image(1), Look.allBut(Look.IMAGE + 1)));
        edge("IMAGES 0 to 2 are three", () -> {
            PerhapsRows x = told(PLAIN);
            for (int i = 0; i < 3; i++) {
                x.make(i, 0, 8, 1, 0);
                x.image(i);
            }
            for (int i = 0; i < 3; i++) {
                x.restore(i);
                due("count(4)", (2 << i) - 1, x.count(4));
            }
        });
        edge("one is made in place of another", () -> {
            PerhapsRows x = Houses.full();
            x.put(0, 9);
            x.image(0);
            x.put(0, 10);
            x.restore(0);
            due("isPut(0,9)", true, x.isPut(0, 9));
            due("isPut(0,10)", false, x.isPut(0, 10));
        });
        edge("one of an object without a text and ROWS", () -> {
            PerhapsRows x = Houses.empty();
            x.image(1);
            tell(x, PLAIN);
            x.make(0, 0, 8, 1, 0);
            x.restore(1);
            due("count(0)", 0, x.count(0));
            due("count(1)", 64, x.count(1));
            due("count(3)", 0, x.count(3));
            due("count(4)", 0, x.count(4));
            due("tag(60)", 12, x.tag(60));
        });
    }

    private static void restoring() {
        about("promise 36");
        for (int i : NONE_OF_THREE) {
            edge("no such IMAGE: " + i, () -> refused(NO_SUCH, x -> x.restore(i)));
            edge("no such IMAGE, though none was made: " + i, () -> refused(NO_SUCH, Houses::empty, x -> x.restore(i)));
        }
        edge("none was made", () -> refused(STATE, x -> x.restore(1)));
        for (int i = 0; i < 3; i++) {
            int image = i;
            edge("none was made at first: " + i, () -> refused(STATE, Houses::solved, x -> x.restore(image)));
        }
        edge("the tape, the FAULT, the FRACTION and TRAYS stay", () -> unchanged(Houses::full, x -> x.restore(2),
                Look.allBut(Look.RULES_AND_ROWS)));
        edge("all is as it was when it is made and brought back at once", () -> unchanged(Houses::full, x -> {
            x.image(1);
            x.restore(1);
        }, Look.allBut(Look.IMAGE + 1)));
        edge("all is as it was, whatever came between", () -> unchanged(Houses::full, x -> {
            x.image(1);
            changeAll(x);
            x.restore(1);
        }, Look.RULES_AND_ROWS));
        edge("twice, with changes between", () -> unchanged(Houses::full, x -> {
            x.image(1);
            changeAll(x);
            x.restore(1);
            changeAll(x);
            x.restore(1);
        }, Look.RULES_AND_ROWS));
        edge("what is SOLVED is as it was", () -> unchanged(Houses::solved, x -> {
            x.image(1);
            x.solve(0, 2);
            x.restore(1);
        }, Look.RULES_AND_ROWS));
        edge("THE RULES, too, with their TAGS and MARKS", () -> unchanged(Houses::full, x -> {
            x.image(1);
            tell(x, "world 256;tags 64;tag 3;mark 1;mark 2;mark 3;mark 4;mark 5;mark 6;");
            x.restore(1);
        }, Look.allBut(Look.IMAGE + 1, Look.TAPE, Look.FAULT)));
        edge("ROWS that are made since aren't there then", () -> {
            PerhapsRows x = Houses.full();
            due("count(4)", 15, x.count(4));
            x.restore(2);
            due("count(4)", 3, x.count(4));
            thrown("of(2,0)", NO_SUCH, () -> x.of(2, 0));
        });
        edge("an IMAGE that is made later stays", () -> {
            PerhapsRows x = Houses.full();
            x.image(1);
            x.restore(2);
            x.restore(1);
            due("of(2,6)", 2, x.of(2, 6));
        });
        edge("the latest FAULT stays, it is none of the IMAGE", () -> {
            PerhapsRows x = Houses.full();
            x.rules(20);
            x.restore(0);
            due("fault(0)", 0, x.fault(0));
        });
    }

    private static void changeAll(PerhapsRows x) {
        x.put(0, 14);
        x.halve(0);
        x.take(1, 5);
        x.put(2, 3);
        x.grow(2);
        x.take(2, 9);
        x.put(3, 6);
        x.put(3, 7);
        x.put(3, 8);
        x.make(1, 2, 3, 2, 3);
        tell(x, "world 40;tags 3;tag 9;mark 1;");
        x.make(0, 0, 9, 1, 0);
        x.put(0, 39);
    }

    // ------------------------------------------------------------ 37

    private static void counting() {
        about("promise 37");
        for (int what : new int[] {-1, 6, MIN, MAX}) {
            edge("NONE for others: " + what, () -> stays(NONE, Houses::full, x -> x.count(what)));
        }
        int[] want = {7, 16, 8, 4, 15, 20};
        for (int what = 0; what < want.length; what++) {
            int asked = what;
            edge("what " + what, () -> stays(want[asked], Houses::full, x -> x.count(asked)));
        }
        edge("ROWS that are there: each has its bit", () -> {
            for (int row = 0; row < 4; row++) {
                PerhapsRows x = told(PLAIN);
                x.make(row, 0, 8, 1, 0);
                due("count(4)", 1 << row, x.count(4));
            }
        });
        edge("a ROW that is made anew counts once", () -> {
            PerhapsRows x = Houses.brim();
            x.make(0, 0, 8, 1, 0);
            due("count(4)", 3, x.count(4));
        });
        edge("LINES, WORLD, TAGS, MARKS at their most", () -> {
            PerhapsRows x = told("world 256;tags 64;tag 1;mark 1;mark 1;mark 1;mark 1;mark 1;mark 1;");
            due("count(0)", 9, x.count(0));
            due("count(1)", 256, x.count(1));
            due("count(2)", 64, x.count(2));
            due("count(3)", 6, x.count(3));
        });
        edge("a FAULT leaves LINES, WORLD, TAGS, MARKS as they were", () -> {
            PerhapsRows x = told(PLAIN);
            tell(x, "world 9;tags 9;mark 9;$");
            due("count(0)", 5, x.count(0));
            due("count(1)", 16, x.count(1));
            due("count(2)", 8, x.count(2));
            due("count(3)", 2, x.count(3));
        });
    }

    public static void main(String[] args) {
        trays();
        writing();
        pouring();
        images();
        restoring();
        counting();
        report("the edges of the trays and images");
    }
}
