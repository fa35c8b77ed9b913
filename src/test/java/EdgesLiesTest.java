/** The boundaries that the document names in LIES and in promises 20 to 31, each in an edge of its own. */
public final class EdgesLiesTest extends Checks {
    private static final long[] NO_NAMES =
            {-1, 16, 256, TWO_TO_32, TWO_TO_32 + 3, -TWO_TO_32, Long.MIN_VALUE, Long.MAX_VALUE};

    private EdgesLiesTest() {
    }

    private static void noTray(String which, OnIndex call) {
        for (int tray : NONE_OF_FOUR) {
            edge("no such TRAY" + which + ": " + tray, () -> refused(NO_SUCH, EdgesLiesTest::lists, x -> call.of(x, tray)));
        }
        edge("the TRAY" + which + " is MISSING", () -> refused(STATE, EdgesLiesTest::lists, x -> call.of(x, 3)));
    }

    private static void noOtherWhat(int most, OnIndex call) {
        for (int what : new int[] {-1, most + 1, MIN, MAX}) {
            edge("another what: " + what, () -> refused(ARGUMENT, EdgesLiesTest::lists, x -> call.of(x, what)));
        }
    }

    /** Of rows 1 to 3 of the one house and row 0 of the other none is of BITS; in both tray 0 is filled, 1 too. */
    private static void onlyBits(OnIndex call) {
        for (int row = 1; row < 4; row++) {
            int asked = row;
            edge("no BITS: " + KINDS[row], () -> refused(STATE, EdgesLiesTest::lists, x -> call.of(x, asked)));
        }
        edge("no BITS: SOLVED", () -> refused(STATE, Houses::solved, x -> call.of(x, 0)));
    }

    /** Names 4 and 9, sizes 8 and 16, nothing; 3 is missing. */
    private static PerhapsRows lists() {
        PerhapsRows x = Houses.full();
        fill(x, 0, 4, 9);
        fill(x, 1, 8, 16);
        return x;
    }

    private static PerhapsRows listed(long... names) {
        PerhapsRows x = lists();
        fill(x, 0, names);
        return x;
    }

    /** Bits, one mark that is the name. */
    private static PerhapsRows bits(int world, int size, int... names) {
        PerhapsRows x = told("world " + world + ";mark name;");
        x.make(0, 0, size, 1, 0);
        putAll(x, 0, names);
        return x;
    }

    private static PerhapsRows allArePut(int world, int size) {
        PerhapsRows x = bits(world, size);
        for (int name = 0; name < world; name++) {
            x.put(0, name);
        }
        return x;
    }

    // ------------------------------------------------------------ 20 to 22

    private static void fraction(String sentence, int upper, int lower, House house) {
        edge(sentence, () -> {
            PerhapsRows x = house.build();
            due("lying(0)", lower != 0, x.lying(0));
            due("upper()", upper, x.upper());
            due("lower()", lower, x.lower());
        });
    }

    private static void fractions() {
        about("promise 20");
        noRow((x, row) -> x.lying(row));
        fraction("nobody is PUT: 0 over 16 in least numbers", 0, 1, () -> bits(16, 8));
        fraction("no LIES: 0 over 15 in least numbers", 0, 1, () -> bits(16, 16, 3));
        fraction("1 over 15", 1, 15, () -> bits(16, 8, 3));
        fraction("3 over 15 in least numbers", 1, 5, () -> bits(16, 4, 3));
        fraction("6 over 14 in least numbers", 3, 7, () -> bits(16, 4, 3, 2));
        fraction("all who aren't PUT are LIES: 1 over 1", 1, 1, () -> bits(16, 1, 3));
        fraction("one isn't PUT, and is no LIE", 0, 1, () -> bits(4, 4, 0, 1, 2));
        fraction("one isn't PUT, and is a LIE", 1, 1, () -> bits(4, 2, 0, 1, 2));
        fraction("all are PUT: 0 over 0", 0, 0, () -> allArePut(16, 4));
        fraction("all of the largest WORLD are PUT: 0 over 0", 0, 0, () -> allArePut(256, 64));
        fraction("the largest WORLD: 255 over 255", 1, 1, () -> bits(256, 1, 255));
        fraction("the largest WORLD: 3 over 255", 1, 85, () -> bits(256, 64, 255));
        fraction("the least WORLD: 1 over 1", 1, 1, () -> bits(2, 1, 1));
        edge("0 over 0 comes in place of the one before", () -> {
            PerhapsRows x = allArePut(4, 4);
            x.make(1, 0, 4, 1, 0);
            due("lying(1)", true, x.lying(1));
            due("lower()", 1, x.lower());
            due("lying(0)", false, x.lying(0));
            due("lower()", 0, x.lower());
            due("upper()", 0, x.upper());
        });
        edge("lying changes nothing but the FRACTION", () -> unchanged(Houses::full, x -> x.lying(1),
                Look.allBut(Look.FRACTION)));
    }

    private static void numbersOfFractions() {
        about("promise 21");
        edge("0 without any", () -> stays(0, Houses::empty, x -> x.upper()));
        edge("of the latest FRACTION", () -> {
            PerhapsRows x = Houses.full();
            due("0 of 14", 1, x.upper());
            x.lying(1);
            due("0 2 8 10 of 13", 4, x.upper());
        });
        edge("0 of 0 over 0", () -> {
            PerhapsRows x = bits(2, 1, 0);
            x.lying(0);
            due("1 over 1", 1, x.upper());
            x.put(0, 1);
            x.lying(0);
            due("0 over 0", 0, x.upper());
        });
        edge("what is PUT later changes nothing", () -> unchanged(Houses::full, x -> x.put(0, 0), Look.FRACTION));
        about("promise 22");
        edge("0 without any", () -> stays(0, Houses::empty, x -> x.lower()));
        edge("of the latest FRACTION", () -> {
            PerhapsRows x = Houses.full();
            due("0 of 14", 14, x.lower());
            x.lying(1);
            due("0 2 8 10 of 13", 13, x.lower());
        });
        edge("0 of 0 over 0", () -> {
            PerhapsRows x = bits(2, 1, 0);
            x.lying(0);
            due("1 over 1", 1, x.lower());
            x.put(0, 1);
            x.lying(0);
            due("0 over 0", 0, x.lower());
        });
        edge("other rules change nothing", () -> unchanged(Houses::full, x -> x.rules(0), Look.FRACTION));
    }

    // ------------------------------------------------------------ 23 to 25

    private static void lies() {
        about("promise 23");
        noRow((x, row) -> x.lie(row, 0));
        for (int k : new int[] {-1, 3, MIN, MAX}) {
            edge("NONE: the " + k + "-th of three", () -> stays(NONE, () -> bits(16, 4, 2), x -> x.lie(0, k)));
        }
        edge("from 0 on, by numbers", () -> {
            PerhapsRows x = bits(16, 4, 6);
            due("lie(0,0)", 2, x.lie(0, 0));
            due("lie(0,1)", 10, x.lie(0, 1));
            due("lie(0,2)", 14, x.lie(0, 2));
        });
        edge("NONE: nobody is PUT", () -> due("lie(0,0)", NONE, bits(16, 4).lie(0, 0)));
        edge("NONE: all are PUT", () -> due("lie(0,0)", NONE, allArePut(16, 4).lie(0, 0)));
        edge("the first name is a LIE", () -> due("lie(0,0)", 0, bits(16, 8, 8).lie(0, 0)));
        edge("the last name of the largest WORLD is a LIE", () -> due("lie(0,2)", 255, bits(256, 64, 63).lie(0, 2)));
        edge("LIES of NESTS: by the TAG of a guest", () -> {
            // guests 0, 4, 9 have the TAGS 0, 2, 4 in the nests 0, 1, 2: so 1 (1 0), 5 (1 1), 8 (0 2)
            int[] lies = {1, 5, 8, NONE};
            for (int k = 0; k < lies.length; k++) {
                due("lie(2," + k + ")", lies[k], Houses.full().lie(2, k));
            }
        });
        edge("LIES of SOLVED for nobody: whose TAG is 0", () -> {
            PerhapsRows x = Houses.solved();
            x.solve(0, 2);
            due("lie(0,0)", 0, x.lie(0, 0));
            due("lie(0,1)", 1, x.lie(0, 1));
            due("lie(0,2)", NONE, x.lie(0, 2));
        });
    }

    private static void wrongs() {
        about("promise 24");
        noRow((x, row) -> x.wronged(row, 0, NONE));
        noTray("", (x, tray) -> x.wronged(0, tray, NONE));
        edge("a ROW comes ahead of a TRAY that is MISSING", () -> refused(NO_SUCH, x -> x.wronged(4, 3, 0)));
        edge("no BITS are asked for", () -> due("wronged(2,0,none)", 1, wrongedOf(5).wronged(2, 0, NONE)));
        edge("an empty TRAY", () -> stays(0, EdgesLiesTest::lists, x -> x.wronged(0, 2, NONE)));
        edge("the first of none", () -> stays(NONE, EdgesLiesTest::lists, x -> x.wronged(0, 2, 0)));
        edge("who is PUT isn't WRONGED", () -> due("wronged", 0, wrongedOf(1, 5).wronged(0, 0, NONE)));
        edge("to whom the ROW says no isn't WRONGED", () -> due("wronged", 0, wrongedOf(2, 15).wronged(0, 0, NONE)));
        for (long number : NO_NAMES) {
            edge("a number that is no name isn't WRONGED: " + number, () -> {
                PerhapsRows x = bits(16, 1, 3);
                fill(x, 0, number, 2);
                due("wronged(0,0,none)", 1, x.wronged(0, 0, NONE));
                due("wronged(0,0,0)", 2, x.wronged(0, 0, 0));
            });
        }
        edge("one that is told twice counts twice, by places", () -> {
            PerhapsRows x = bits(16, 1, 3);
            fill(x, 0, 9, 2, 9);
            due("wronged(0,0,none)", 3, x.wronged(0, 0, NONE));
            due("wronged(0,0,0)", 9, x.wronged(0, 0, 0));
            due("wronged(0,0,1)", 2, x.wronged(0, 0, 1));
            due("wronged(0,0,2)", 9, x.wronged(0, 0, 2));
        });
        for (int k : new int[] {3, MAX, -2, MIN}) {
            edge("NONE: not so many: " + k, () -> {
                PerhapsRows x = bits(16, 1, 3);
                fill(x, 0, 9, 2, 9);
                due("wronged(0,0," + k + ")", NONE, x.wronged(0, 0, k));
            });
        }
        edge("40 places, the last one", () -> {
            PerhapsRows x = bits(256, 1, 3);
            x.tray(0, 1, 40);
            for (int i = 0; i < 40; i++) {
                x.write(0, i, 200 + i);
            }
            due("wronged(0,0,none)", 40, x.wronged(0, 0, NONE));
            due("wronged(0,0,39)", 239, x.wronged(0, 0, 39));
            due("wronged(0,0,40)", NONE, x.wronged(0, 0, 40));
        });
    }

    private static PerhapsRows wrongedOf(long... names) {
        return listed(names);
    }

    private static void worseOnes() {
        about("promise 25");
        noRow((x, row) -> x.worse(row, 0));
        about("promise 25, the other");
        noRow((x, row) -> x.worse(0, row));
        about("promise 25");
        edge("the first has more", () -> stays(3, Houses::full, x -> x.worse(1, 0)));
        edge("the first has fewer: below 0", () -> stays(-3, Houses::full, x -> x.worse(0, 1)));
        edge("both are one", () -> due("worse(1,1)", 0, Houses.full().worse(1, 1)));
        edge("as many as there can be", () -> {
            PerhapsRows x = bits(256, 1, 0);
            x.make(1, 0, 1, 1, 0);
            due("worse(0,1)", 255, x.worse(0, 1));
            due("worse(1,0)", -255, x.worse(1, 0));
        });
    }

    // ------------------------------------------------------------ 26

    private static void cascadeRefused() {
        about("promise 26");
        noRow((x, row) -> x.cascade(row, 0, 1, 0));
        noTray(" of names", (x, tray) -> x.cascade(0, tray, 1, 0));
        noTray(" of sizes", (x, tray) -> x.cascade(0, 0, tray, 0));
        onlyBits((x, row) -> x.cascade(row, 0, 1, 0));
        noOtherWhat(2, (x, what) -> x.cascade(0, 0, 1, what));
        for (long number : NO_NAMES) {
            edge("a number of the list that is no name: " + number, () -> {
                refused(ARGUMENT, () -> listed(4, number), x -> x.cascade(0, 0, 1, 0));
                refused(ARGUMENT, () -> listed(number, 4), x -> x.cascade(0, 0, 1, 0));
            });
        }
        for (long size : new long[] {0, 65, -1, TWO_TO_32 + 8, Long.MIN_VALUE, Long.MAX_VALUE}) {
            edge("a size: " + size, () -> refused(ARGUMENT, () -> sized(size), x -> x.cascade(0, 0, 1, 0)));
            edge("a size that no level needs: " + size, () -> refused(ARGUMENT, () -> sized(64, size), x -> x.cascade(0, 0, 1, 0)));
        }
        edge("a ROW comes ahead of all else", () -> refused(NO_SUCH, EdgesLiesTest::lists, x -> x.cascade(4, 3, 3, 9)));
        edge("a list that is none comes ahead of one that is MISSING", () -> refused(NO_SUCH, x -> x.cascade(1, 4, 3, 9)));
        edge("sizes that are none come ahead of a list that is MISSING", () -> refused(NO_SUCH, x -> x.cascade(1, 3, 4, 9)));
        edge("no BITS come ahead of a what", () -> refused(STATE, EdgesLiesTest::lists, x -> x.cascade(1, 0, 1, 3)));
        edge("a list that is MISSING comes ahead of a what", () -> refused(STATE, EdgesLiesTest::lists, x -> x.cascade(0, 3, 1, 3)));
        edge("sizes that are MISSING come ahead of a number", () -> refused(STATE, () -> listed(99), x -> x.cascade(0, 0, 3, 0)));
    }

    private static PerhapsRows sized(long... sizes) {
        PerhapsRows x = lists();
        fill(x, 1, sizes);
        return x;
    }

    /** Of a row of this WORLD, with one mark that is the name: levels, how many they took, sizes. */
    private static void cascaded(String sentence, String want, long[] put, long[] list, long... sizes) {
        edge(sentence, () -> {
            House house = () -> {
                PerhapsRows x = bits(64, 7);
                fill(x, 0, put);
                x.pour(0, 0);
                fill(x, 0, list);
                fill(x, 1, sizes);
                return x;
            };
            for (int what = 0; what < 3; what++) {
                int asked = what;
                stays(want.split(" ")[what], house, x -> x.cascade(0, 0, 1, asked));
            }
        });
    }

    private static long[] these(long... numbers) {
        return numbers;
    }

    private static void cascades() {
        about("promise 26, CASCADE");
        cascaded("nobody of the list is left by level 0", "1 1 8", these(0), these(1, 2), 8, 8);
        cascaded("an empty list", "1 1 8", these(0), these(), 8);
        cascaded("a list of those who are PUT", "1 2 1", these(0, 5), these(5, 0), 1);
        cascaded("nobody is PUT", "1 0 8", these(), these(1, 2), 8);
        cascaded("no sizes", "-1 -1 -1", these(0), these(1));
        cascaded("no sizes and an empty list", "-1 -1 -1", these(0), these());
        cascaded("the last size is enough", "2 2 12", these(0), these(4), 4, 8);
        cascaded("sizes end before that", "-1 -1 -1", these(0), these(4), 4, 4);
        cascaded("sizes that aren't used don't count", "2 2 12", these(0), these(4), 4, 8, 8, 8);
        cascaded("level 2 takes those of the PUT to whom level 1 says YES", "3 4 16", these(0, 5), these(4), 4, 4, 8);
        cascaded("level 3 asks those that level 1 took", "4 10 24", these(0, 5), these(4, 12, 13), 4, 2, 2, 16);
        cascaded("told twice they count once", "2 2 12", these(0), these(4, 4, 4), 4, 8);
        cascaded("the sizes 1 and 64", "2 2 65", these(0), these(63), 1, 64);
        cascaded("a place of 64 that isn't one of 1", "1 1 64", these(0), these(63), 64);
        long[] sizes = new long[40];
        java.util.Arrays.fill(sizes, 1);
        cascaded("40 sizes of 1 aren't enough", "-1 -1 -1", these(0), these(63), sizes);
        long[] more = sizes.clone();
        more[39] = 64;
        cascaded("40 levels", "40 40 103", these(0), these(63), more);
        edge("a second question knows nothing of the first", () -> {
            PerhapsRows x = bits(64, 7, 0, 5);
            fill(x, 0, 4, 12, 13);
            fill(x, 1, 4, 2, 2, 16);
            fill(x, 2, 1, 2);
            fill(x, 3, 4, 16);
            for (int i = 0; i < 3; i++) {
                due("levels", 4, x.cascade(0, 0, 1, 0));
                due("took", 10, x.cascade(0, 0, 1, 1));
                due("sizes", 24, x.cascade(0, 0, 1, 2));
                // 0 1 of 4: 1 is left; 1 of 16: nobody
                due("levels", 2, x.cascade(0, 2, 3, 0));
                due("took", 3, x.cascade(0, 2, 3, 1));
                due("sizes", 20, x.cascade(0, 2, 3, 2));
            }
        });
        edge("the ROW's own SIZE is none of it, its MARKS are", () -> {
            PerhapsRows x = told(PLAIN);
            x.make(0, 0, 1, 1, 0);
            x.make(1, 0, 1, 2, 0);
            putAll(x, 0, 0);
            putAll(x, 1, 0);
            fill(x, 0, 8);
            fill(x, 1, 8);
            due("by one mark 8 is as 0", NONE, x.cascade(0, 0, 1, 0));
            due("by two it isn't", 1, x.cascade(1, 0, 1, 0));
        });
    }

    // ------------------------------------------------------------ 27, 28

    private static void learning() {
        about("promise 27");
        noRow((x, row) -> x.learn(row, 0, 0));
        noTray("", (x, tray) -> x.learn(0, tray, 0));
        onlyBits((x, row) -> x.learn(row, 0, 0));
        noOtherWhat(2, (x, what) -> x.learn(0, 0, what));
        for (long number : NO_NAMES) {
            edge("a number that is no name: " + number, () -> {
                refused(ARGUMENT, () -> listed(4, number), x -> x.learn(0, 0, 0));
                refused(ARGUMENT, () -> listed(number, 4), x -> x.learn(0, 0, 0));
            });
        }
        edge("a ROW comes ahead of a TRAY that is MISSING", () -> refused(NO_SUCH, x -> x.learn(4, 3, 9)));
        edge("a TRAY comes ahead of no BITS", () -> refused(NO_SUCH, x -> x.learn(1, 4, 9)));
        edge("no BITS come ahead of a what", () -> refused(STATE, EdgesLiesTest::lists, x -> x.learn(1, 0, 9)));
        edge("MISSING comes ahead of a what", () -> refused(STATE, x -> x.learn(0, 3, 9)));
        // bits 0 1 5: yes to 0 (0), 1 (1 0), 5 (5 1)
        learned("nobody is asked", "0 0 0");
        learned("each says no", "0 0 0", 2, 9, 15);
        learned("a YES to who is PUT", "2 1 0", 5);
        learned("a YES that is a LIE", "1 1 0", 0);
        learned("KNOWN who wasn't asked", "2 2 1", 1);
        learned("told twice", "2 2 1", 1, 1, 1);
        learned("a no teaches nothing", "2 1 0", 4, 5, 6);
        learned("all PLACES that are 1", "3 3 1", 5, 1);
        edge("a second question knows nothing of the first", () -> {
            PerhapsRows x = listed(5);
            fill(x, 1, 1);
            for (int i = 0; i < 2; i++) {
                due("KNOWN by 5", 1, x.learn(0, 0, 1));
                due("not asked", 0, x.learn(0, 0, 2));
                due("KNOWN by 1", 2, x.learn(0, 1, 1));
                due("not asked", 1, x.learn(0, 1, 2));
                due("KNOWN by nobody", 0, x.learn(0, 2, 1));
            }
        });
        edge("64 PLACES by 40 who were asked, the last one, too", () -> {
            PerhapsRows x = allArePut(64, 64);
            x.tray(0, 1, 40);
            for (int i = 0; i < 40; i++) {
                x.write(0, i, 63 - i);
            }
            due("learn(0,0,0)", 40, x.learn(0, 0, 0));
            due("learn(0,0,1)", 40, x.learn(0, 0, 1));
            due("learn(0,0,2)", 0, x.learn(0, 0, 2));
        });
        edge("the largest WORLD", () -> {
            PerhapsRows x = bits(256, 1, 255);
            fill(x, 0, 0);
            due("learn(0,0,1)", 256, x.learn(0, 0, 1));
            due("learn(0,0,2)", 255, x.learn(0, 0, 2));
        });
    }

    private static void learned(String sentence, String want, long... names) {
        edge(sentence, () -> {
            for (int what = 0; what < 3; what++) {
                int asked = what;
                stays(want.split(" ")[what], () -> listed(names), x -> x.learn(0, 0, asked));
            }
        });
    }

    private static void asking() {
        about("promise 28");
        noRow((x, row) -> x.ask(row, 0));
        noTray("", (x, tray) -> x.ask(0, tray));
        onlyBits((x, row) -> x.ask(row, 0));
        for (long number : NO_NAMES) {
            edge("a number that is no name: " + number, () -> {
                refused(ARGUMENT, () -> listed(4, number), x -> x.ask(0, 0));
                refused(ARGUMENT, () -> listed(number, 4), x -> x.ask(0, 0));
            });
        }
        edge("a ROW comes ahead of a TRAY that is MISSING", () -> refused(NO_SUCH, x -> x.ask(4, 3)));
        edge("a TRAY comes ahead of no BITS", () -> refused(NO_SUCH, x -> x.ask(1, 4)));
        edge("no BITS come ahead of a number", () -> refused(STATE, () -> listed(99), x -> x.ask(1, 0)));
        edge("nobody was asked: unlike PLACES, then the least", () -> stays(1, () -> listed(), x -> x.ask(0, 0)));
        edge("PLACES that are known don't count", () -> {
            // 0 1 5 are known: 6 (6 1) has one that isn't, so have 7 8 9 10 13, and 0 has none
            stays(6, () -> listed(1, 2, 3, 4, 5, 11, 12, 14, 15), x -> x.ask(0, 0));
        });
        edge("PLACES that aren't known, unlike ones: two of 11, one of 10", () -> {
            // by 1 the places 0 1 are known: of two that aren't 8 (0 2) has one, 11 (3 2) two, 10 (2 2) one
            stays(11, () -> listed(1), x -> x.ask(0, 0));
        });
        edge("a no teaches nothing", () -> stays(1, () -> listed(2, 15), x -> x.ask(0, 0)));
        edge("all that weren't asked have no PLACE that isn't known: the least", () -> {
            PerhapsRows x = bits(16, 1, 3);
            fill(x, 0, 0, 1);
            due("ask(0,0)", 2, x.ask(0, 0));
        });
        edge("the only one left is the first, or the last", () -> {
            PerhapsRows x = bits(3, 1, 1);
            fill(x, 0, 2, 1);
            due("ask(0,0)", 0, x.ask(0, 0));
            fill(x, 0, 0, 1);
            due("ask(0,0)", 2, x.ask(0, 0));
        });
        edge("a second question knows nothing of the first", () -> {
            PerhapsRows x = listed(1);
            for (int i = 0; i < 2; i++) {
                due("ask(0,0)", 11, x.ask(0, 0));
                due("ask(0,2)", 1, x.ask(0, 2));
            }
        });
        edge("NONE: all were asked", () -> {
            PerhapsRows x = bits(3, 1, 1);
            fill(x, 0, 2, 1, 0, 2);
            due("ask(0,0)", NONE, x.ask(0, 0));
        });
        edge("NONE: all 40 of a WORLD of 40 were asked, not of 41", () -> {
            for (int world = 40; world < 42; world++) {
                PerhapsRows x = bits(world, 8, 1);
                x.tray(0, 0, 40);
                for (int i = 0; i < 40; i++) {
                    x.write(0, i, i);
                }
                due("ask(0,0) of " + world, world == 40 ? NONE : 40, x.ask(0, 0));
            }
        });
    }

    // ------------------------------------------------------------ 29 to 31

    /** In 8 places a name is at itself, in 4 one further: 1 was put at 1, and is asked for at 2. */
    private static PerhapsRows halvedElsewhere() {
        PerhapsRows x = told("world 8;mark name+(8-size)/4;");
        x.make(0, 0, 8, 1, 0);
        putAll(x, 0, 1);
        due("halve(0)", 4, x.halve(0));
        return x;
    }

    private static void worsts() {
        about("promise 29");
        noRow((x, row) -> x.worst(row, 0));
        onlyBits((x, row) -> x.worst(row, 0));
        noOtherWhat(1, (x, what) -> x.worst(0, what));
        edge("a ROW comes ahead of a what", () -> refused(NO_SUCH, x -> x.worst(4, 2)));
        edge("no BITS come ahead of a what", () -> refused(STATE, x -> x.worst(1, 2)));
        for (int what = 0; what < 2; what++) {
            int asked = what;
            edge("NONE: all are PUT, what " + what, () -> stays(NONE, () -> allArePut(16, 4), x -> x.worst(0, asked)));
            edge("it isn't PUT by that, what " + what, () -> stays(asked == 0 ? 11 : 7, Houses::full, x -> x.worst(0, asked)));
        }
        edge("without LIES: the least, and 0", () -> {
            PerhapsRows x = bits(4, 4, 0);
            due("worst(0,0)", 1, x.worst(0, 0));
            due("worst(0,1)", 0, x.worst(0, 1));
        });
        edge("as many by each: the least", () -> {
            PerhapsRows x = bits(16, 4);
            due("worst(0,0)", 0, x.worst(0, 0));
            due("worst(0,1): 4 8 12", 3, x.worst(0, 1));
        });
        edge("LIES that are there already count", () -> {
            PerhapsRows x = bits(16, 4, 0);
            due("worst(0,0)", 1, x.worst(0, 0));
            due("worst(0,1): 4 8 12, 5 9 13", 6, x.worst(0, 1));
        });
        edge("the only one that isn't PUT is the last, and no LIE then", () -> {
            PerhapsRows x = bits(4, 1, 0, 1, 2);
            due("worst(0,0)", 3, x.worst(0, 0));
            due("worst(0,1)", 0, x.worst(0, 1));
        });
        edge("one that would be a LIE is PUT: fewer LIES than there are", () -> {
            PerhapsRows x = bits(4, 2, 0, 1);
            due("lie(0,1)", 3, x.lie(0, 1));
            due("worst(0,0)", 2, x.worst(0, 0));
            due("worst(0,1)", 1, x.worst(0, 1));
        });
        edge("the largest WORLD", () -> {
            PerhapsRows x = bits(256, 64, 63);
            due("worst(0,0)", 0, x.worst(0, 0));
            due("worst(0,1)", 6, x.worst(0, 1));
        });
        edge("nobody is PUT in the largest WORLD, size 1", () -> due("worst(0,1)", 255, bits(256, 1).worst(0, 1)));
        edge("a HALVED row goes by the bits that it has", () -> {
            PerhapsRows x = halvedElsewhere();
            due("worst(0,0)", 2, x.worst(0, 0));
            due("worst(0,1): 0 4, 6", 3, x.worst(0, 1));
        });
        edge("LIES of a HALVED row, what is learned of it and who is to blame", () -> {
            PerhapsRows x = halvedElsewhere();
            due("yes(0,1)", false, x.yes(0, 1));
            due("lie(0,0)", 0, x.lie(0, 0));
            due("lie(0,1)", 4, x.lie(0, 1));
            due("lie(0,2)", NONE, x.lie(0, 2));
            fill(x, 0, 1, 0);
            due("learn(0,0,0): the PLACE 1 by 0", 1, x.learn(0, 0, 0));
            due("learn(0,0,1): 0 4", 2, x.learn(0, 0, 1));
            due("learn(0,0,2): 4", 1, x.learn(0, 0, 2));
            due("ask(0,0)", 2, x.ask(0, 0));
            due("blame(0,0): nobody's PLACES hold 1", NONE, x.blame(0, 0));
            due("blame(0,5): 1 is at 2 now", 1, x.blame(0, 5));
        });
    }

    private static void blames() {
        about("promise 30");
        noRow((x, row) -> x.blame(row, 0));
        onlyBits((x, row) -> x.blame(row, 0));
        for (int name : new int[] {-1, 16, MIN, MAX}) {
            edge("no such name: " + name, () -> refused(ARGUMENT, x -> x.blame(0, name)));
        }
        edge("a ROW comes ahead of a name", () -> refused(NO_SUCH, x -> x.blame(4, 16)));
        edge("no BITS come ahead of a name", () -> refused(STATE, x -> x.blame(1, 16)));
        edge("NONE: the ROW says no", () -> stays(NONE, Houses::full, x -> x.blame(0, 9)));
        edge("NONE: nobody is PUT", () -> due("blame(0,0)", NONE, bits(16, 4).blame(0, 0)));
        edge("who is PUT is enough for itself", () -> stays(1, Houses::full, x -> x.blame(0, 5)));
        edge("the first name, of one PLACE", () -> stays(1, Houses::full, x -> x.blame(0, 0)));
        edge("the last name", () -> due("blame(0,255)", 1, bits(256, 64, 63).blame(0, 255)));
        edge("by the first name alone, or by the last one", () -> {
            due("blame(0,0)", 1, bits(256, 64, 0).blame(0, 0));
            due("blame(0,64)", 1, bits(256, 64, 0).blame(0, 64));
            due("blame(0,63)", 1, bits(256, 64, 255).blame(0, 63));
        });
        edge("6 MARKS, each of another one who is PUT", () -> {
            PerhapsRows x = sixBits();
            putAll(x, 0, 1, 2, 4, 8, 16);
            due("the ROW says no", NONE, x.blame(0, 63));
            putAll(x, 0, 32);
            due("six", 6, x.blame(0, 63));
            due("1 by itself", 1, x.blame(0, 1));
            due("0 by two", 2, x.blame(0, 0));
        });
        edge("the fewest, not the first that come", () -> {
            PerhapsRows x = sixBits();
            putAll(x, 0, 1, 2, 4, 8, 16, 32);
            putAll(x, 0, 7);
            due("7 8 16 32", 4, x.blame(0, 63));
            putAll(x, 0, 15, 48);
            due("15 48", 2, x.blame(0, 63));
            putAll(x, 0, 63);
            due("63", 1, x.blame(0, 63));
        });
        joinedAndHalvedAreAsked();
    }

    /** Mark i has one of two places, by bit i of the name. */
    private static PerhapsRows sixBits() {
        PerhapsRows x = told("mark name%2;mark 2+name/2%2;mark 4+name/4%2;mark 6+name/8%2;mark 8+name/16%2;mark 10+name/32%2;");
        x.make(0, 0, 12, 6, 0);
        return x;
    }

    private static void joinedAndHalvedAreAsked() {
        edge("a ROW that was JOINED: by who is PUT in both", () -> {
            PerhapsRows x = told(PLAIN);
            x.make(0, 0, 8, 2, 0);
            x.make(1, 0, 8, 2, 0);
            putAll(x, 0, 11);
            putAll(x, 1, 1);
            due("2 (2 0)", NONE, x.blame(0, 2));
            x.join(0, 1);
            due("2 (2 0) by 11 (3 2) and 1 (1 0)", 2, x.blame(0, 2));
        });
        edge("a ROW that was HALVED: by its SIZE now", () -> {
            PerhapsRows x = told(PLAIN);
            x.make(0, 0, 8, 2, 0);
            putAll(x, 0, 6);
            due("2 (2 0) in 8", NONE, x.blame(0, 2));
            due("10 (2 2) in 8", NONE, x.blame(0, 10));
            x.halve(0);
            due("10 (2 2) in 4, by 6 (2 1)", 1, x.blame(0, 10));
            due("2 (2 0) in 4", NONE, x.blame(0, 2));
        });
        // by the size 8 the place of 0 is 5, by 4 it is 2; that of 1 is 1
        edge("a ROW that was HALVED, says YES, and yet there is no such set", () -> {
            PerhapsRows x = told("mark (5*(size/8)+2*(1-size/8))*(1-name)+name;");
            x.make(0, 0, 8, 1, 0);
            putAll(x, 0, 0);
            x.halve(0);
            due("yes(0,1)", true, x.yes(0, 1));
            due("blame(0,1)", NONE, x.blame(0, 1));
        });
    }

    private static void chosen(String sentence, int money, String want, House house) {
        edge(sentence, () -> {
            for (int what = 0; what < 3; what++) {
                int asked = what;
                stays(want.split(" ")[what], house, x -> x.choose(0, money, asked));
            }
        });
    }

    private static void choices() {
        about("promise 31");
        noRow((x, row) -> x.choose(row, 12, 0));
        for (int money : new int[] {-1, 1000, MIN, MAX}) {
            edge("money: " + money, () -> refused(ARGUMENT, x -> x.choose(0, money, 0)));
        }
        noOtherWhat(2, (x, what) -> x.choose(0, 12, what));
        edge("a ROW comes ahead of money", () -> refused(NO_SUCH, x -> x.choose(4, 1000, 3)));
        chosen("NONE: no money", 0, "-1 -1 -1", () -> bits(16, 1, 0));
        chosen("NONE: money for less than the least", 11, "-1 -1 -1", () -> bits(16, 1, 0));
        chosen("money for just the least", 12, "8 1 1", () -> bits(16, 1, 0));
        chosen("money for just less than the best", 19, "8 1 1", () -> bits(16, 1, 0));
        chosen("a cost that is just the money", 20, "16 1 0", () -> bits(16, 1, 0));
        chosen("the most money", 999, "16 1 0", () -> bits(16, 1, 0));
        for (int size = 16; size <= 64; size += 8) {
            int world = size - 7;
            chosen("the size " + size, size + 4, size + " 1 0", () -> bits(world, 1, 0));
            chosen("the size " + size + " with all money", 999, size + " 1 0", () -> bits(world, 1, 0));
        }
        chosen("the last of 64 PLACES", 68, "64 1 0", () -> bits(64, 1, 0));
        chosen("no size above 64", 999, "40 1 1", () -> bits(80, 1, 0));
        chosen("nobody is PUT: no LIES, the least cost", 999, "8 1 0", () -> bits(64, 1));
        chosen("all are PUT: no LIES, the least cost", 999, "8 1 0", () -> allArePut(64, 1));
        edge("without MARKS there is no ROW", () -> refused(NO_SUCH, Houses::empty, x -> x.choose(0, 999, 0)));
        String three = "world 16;mark 0;mark name;mark name/8;";
        chosen("MARKS 1 to all there are, not only those of the ROW", 999, "8 3 0", () -> oneIn(three, 1));
        chosen("no money for all MARKS", 19, "8 2 1", () -> oneIn(three, 1));
        chosen("money for one MARK alone", 15, "8 1 15", () -> oneIn(three, 1));
        // of 16 places with 1 mark and 8 with 3 both cost 20, without LIES
        chosen("as many LIES and as much cost: the least size", 999, "8 3 0",
                () -> oneIn("world 16;mark name;mark 0;mark name/8;", 1));
        // of 24 places with 1 mark and 8 with 5 both cost 28; 8 with 4 costs 24 without LIES
        chosen("as many LIES: the least cost, though the size is larger", 999, "16 1 0",
                () -> oneIn("world 16;mark name;mark 0;mark 0;mark name/8;", 1));
        chosen("6 MARKS", 32, "8 6 0", () -> oneIn("world 16;mark 0;mark 0;mark 0;mark 0;mark name;mark name/8;", 1));
        for (int row = 0; row < 4; row++) {
            int asked = row;
            edge("of any KIND: " + KINDS[row], () -> stays(8, Houses::full, x -> x.choose(asked, 12, 0)));
        }
        edge("of any KIND: SOLVED", () -> stays(8, Houses::solved, x -> x.choose(0, 12, 0)));
    }

    private static PerhapsRows oneIn(String text, int marks) {
        PerhapsRows x = told(text);
        x.make(0, 0, 64, marks, 0);
        putAll(x, 0, 0);
        return x;
    }

    public static void main(String[] args) {
        fractions();
        numbersOfFractions();
        lies();
        wrongs();
        worseOnes();
        cascadeRefused();
        cascades();
        learning();
        asking();
        worsts();
        blames();
        choices();
        report("the edges of the lies");
    }
}
