/** For each promise of the document: ordinary inputs, the edges that it names, and wrong inputs, worked out by hand. */
public final class PromisesTest extends Checks {
    private PromisesTest() {
    }

    // ------------------------------------------------------------ 1 to 7

    private static void promise1() {
        PerhapsRows x = new PerhapsRows();
        int[] counts = {0, 64, 16, 0, 0, 0};
        for (int i = 0; i < counts.length; i++) {
            due("count(" + i + ")", counts[i], x.count(i));
        }
        due("fault(0)", 0, x.fault(0));
        due("fault(1)", NONE, x.fault(1));
        due("upper()", 0, x.upper());
        due("lower()", 0, x.lower());
        due("tag(63)", 15, x.tag(63));
        thrown("of(0,0)", NO_SUCH, () -> x.of(0, 0));
        thrown("write(0,0,0)", STATE, () -> x.write(0, 0, 0));
        thrown("restore(0)", STATE, () -> x.restore(0));
        thrown("make without marks", ARGUMENT, () -> x.make(0, 0, 8, 1, 0));
        thrown("rules(1)", ARGUMENT, () -> x.rules(1));
        due("NONE", -1, PerhapsRows.NONE);
    }

    private static void promise2() {
        PerhapsRows x = new PerhapsRows();
        for (int i = 1; i <= 30; i++) {
            due("feed " + i, 20L * i, x.feed(0x20202020, 0x20202020, 0x20202020, 0x20202020, 0x20202020));
        }
        due("feed 31", NONE, x.feed(0, 0, 0, 0, 0));
        due("count(5)", 600, x.count(5));
        due("rules(600)", 0, x.rules(600));
        due("feed", 20, x.feed(0x6d61726b, 0x20313b20, 0x20202020, 0xff202020, 0));
        due("the highest byte comes first", -11, x.rules(20));
        due("its place", 12, x.fault(1));
        x.feed(0x6d61726b, 0x20313b20, 0, 0, 0);
        due("mark 1; and zeros behind", 1, x.rules(8));
    }

    private static void promise3() {
        PerhapsRows x = told(PLAIN);
        due("count(0)", 5, x.count(0));
        x.make(2, 0, 8, 1, 0);
        feedText(x, "mark 1;");
        thrown("rules(-1)", ARGUMENT, () -> x.rules(-1));
        thrown("rules(21)", ARGUMENT, () -> x.rules(21));
        due("the tape stays behind a throw", 20, x.count(5));
        due("rules(3): a text cut off", -12, x.rules(3));
        due("the tape is empty behind a fault", 0, x.count(5));
        due("all else stays: rows", 4, x.count(4));
        due("all else stays: world", 16, x.count(1));
        due("all else stays: value", 9, x.value(0, 9, 8));
        due("rules(0)", 0, x.rules(0));
        due("no rows then", 0, x.count(4));
        due("WORLD without a line", 64, x.count(1));
        due("TAGS without a line", 16, x.count(2));
        due("later ones strike", 8, tell(x, "world 9;tags 3;tag 1;mark name; world\n10 ;tags 4;tag size+3;mark 2;"));
        due("WORLD", 10, x.count(1));
        due("TAGS", 4, x.count(2));
        due("tag(0)", 3, x.tag(0));
        due("MARKS", 2, x.count(3));
        due("blanks alone", 0, tell(x, " \n "));
        due("six marks", 6, tell(x, "mark 1;mark 1;mark 1;mark 1;mark 1;mark 1;"));
        due("the bounds", 4, tell(x, "world 2;world 256;tags 2;tags 64;"));
        due("zeros ahead", 1, tell(x, "world 00064;"));
        due("words and numbers need no blanks", 2, tell(x, "world64;mark12;"));
        due("value(0,0,1)", 12, x.value(0, 0, 1));
        due("six brackets, twice", 1, tell(x, "mark ((((((1))))))+((((((name))))));"));
        due("value(0,4,1)", 5, x.value(0, 4, 1));
    }

    private static void faulty(String text, int kind, int place) {
        PerhapsRows x = new PerhapsRows();
        due("rules of " + text, -10 - kind, tell(x, text));
        due("fault(0) of " + text, kind, x.fault(0));
        due("fault(1) of " + text, place, x.fault(1));
    }

    private static void promise4() {
        faulty("mark name;Mark", 1, 10);
        faulty("mark 123456;", 1, 5);
        faulty("mark 1 1234567;", 1, 7);
        faulty("world 9;\t", 1, 8);
        faulty("mark name!", 1, 9);
        faulty("\u00e4", 1, 0);
        faulty(";", 2, 0);
        faulty("mark", 2, 4);
        faulty("mark ;", 2, 5);
        faulty("mark name  ", 2, 11);
        faulty("mark name name;", 2, 10);
        faulty("mark (name;", 2, 10);
        faulty("mark name);", 2, 9);
        faulty("mark ();", 2, 6);
        faulty("mark -1;", 2, 5);
        faulty("mark 1+;", 2, 7);
        faulty("mark 1(2);", 2, 6);
        faulty("marks 1;", 2, 0);
        faulty("markname;", 2, 0);
        faulty("mark world;", 2, 5);
        faulty("mark 12345name;", 2, 10);
        faulty("name;", 2, 0);
        faulty("xark 1;", 2, 0);
        faulty("mark siza;", 2, 5);
        faulty("world name;", 2, 6);
        faulty("world (9);", 2, 6);
        faulty("world 9 9;", 2, 8);
        faulty("world 1;", 3, 6);
        faulty("world 257;", 3, 6);
        faulty("world 99999", 3, 6);
        faulty("tags 1;", 3, 5);
        faulty("tags 65;", 3, 5);
        faulty("mark 1;mark 1;mark 1;mark 1;mark 1;mark 1; mark $", 4, 43);
        faulty("mark (((((((1", 5, 11);
        faulty("mark ((((((1(", 2, 12);
        faulty("mark ((((((1)(", 2, 13);
        faulty("mark 1+ +; world 1", 2, 8);
        PerhapsRows x = told(PLAIN);
        due("fault(0) without", 0, x.fault(0));
        due("fault(1) without", NONE, x.fault(1));
        tell(x, "mark 1;$");
        thrown("rules(1)", ARGUMENT, () -> x.rules(1));
        due("fault(0) of the latest that threw nothing", 1, x.fault(0));
        due("fault(2)", NONE, x.fault(2));
        due("fault(-1)", NONE, x.fault(-1));
        x.rules(0);
        due("fault(0) then", 0, x.fault(0));
        due("fault(1) then", NONE, x.fault(1));
    }

    private static void valued(String expression, int name, int size, int want) {
        PerhapsRows x = told("mark " + expression + ";");
        due(expression + " of " + name + "," + size, want, x.value(0, name, size));
    }

    private static void promise5() {
        valued("2+3*4-10/4%2", 0, 1, 14);
        valued("100/7/2", 0, 1, 7);
        valued("10-3-2", 0, 1, 5);
        valued("2*(3+4)*5", 0, 1, 70);
        valued("(0-7)/2", 0, 1, -3);
        valued("(0-7)%2", 0, 1, -1);
        valued("7%(0-4)", 0, 1, 3);
        valued("name/0+name%0+1", 9, 1, 1);
        valued("5/(size-8)", 9, 8, 0);
        valued("name*size", -3, 128, -384);
        valued("name*99999*99999", 3, 1, 3 * 99999 * 99999);
        valued("name+1", Integer.MAX_VALUE, 1, Integer.MIN_VALUE);
        valued("name/(0-1)", Integer.MIN_VALUE, 1, Integer.MIN_VALUE);
        valued("name%(0-1)", Integer.MIN_VALUE, 1, 0);
        valued("1+2*(3+4*(5+6*(7+8*(9+10*(11+12*(name+2*3))))))", 1, 1,
                1 + 2 * (3 + 4 * (5 + 6 * (7 + 8 * (9 + 10 * (11 + 12 * (1 + 2 * 3)))))));
        valued(" 1" + "+1".repeat(296), 0, 1, 297);
        PerhapsRows x = told(PLAIN);
        due("value(1,9,8)", 2, x.value(1, 9, 8));
        thrown("value(-1,0,8)", NO_SUCH, () -> x.value(-1, 0, 8));
        thrown("value(2,0,8)", NO_SUCH, () -> x.value(2, 0, 8));
        thrown("value(2,0,0)", NO_SUCH, () -> x.value(2, 0, 0));
        thrown("value(0,0,0)", ARGUMENT, () -> x.value(0, 0, 0));
        thrown("value(0,0,129)", ARGUMENT, () -> x.value(0, 0, 129));
        due("value(0,7,1)", 7, x.value(0, 7, 1));
    }

    private static void promise6() {
        PerhapsRows x = told(PLAIN);
        due("place(0,-1,8)", 7, x.place(0, -1, 8));
        due("place(0,-8,8)", 0, x.place(0, -8, 8));
        due("place(0,17,8)", 1, x.place(0, 17, 8));
        due("place(0,200,128)", 72, x.place(0, 200, 128));
        due("place(0,min,3)", 1, x.place(0, Integer.MIN_VALUE, 3));
        PerhapsRows y = told("mark size;mark size/2;mark name;mark 5;");
        due("size modulo itself", 0, y.place(0, 3, 9));
        due("half the size", 4, y.place(1, 3, 9));
        due("a mark without name and size", 5, y.place(3, 3, 9));
        y.make(0, 0, 8, 4, 0);
        putAll(y, 0, 3);
        cells(y, 0, 1, 0, 0, 1, 1, 1, 0, 0);
        due("halve", 4, y.halve(0));
        cells(y, 0, 1, 1, 0, 1);
        due("by the size now: 0, 2, 3, 1", false, y.yes(0, 3));
        thrown("place(2,0,0)", NO_SUCH, () -> x.place(2, 0, 0));
        thrown("place(0,0,-1)", ARGUMENT, () -> x.place(0, 0, -1));
        thrown("place(0,0,129)", ARGUMENT, () -> x.place(0, 0, 129));
    }

    private static void promise7() {
        PerhapsRows x = told(PLAIN);
        due("tag(15)", 7, x.tag(15));
        thrown("tag(16)", ARGUMENT, () -> x.tag(16));
        thrown("tag(-1)", ARGUMENT, () -> x.tag(-1));
        due("size in a tag is TAGS, told later", 3, tell(x, "tag size-name*2;tags 5;world 9;"));
        due("5 less 2 times 4, below 0", 2, x.tag(4));
        due("rules without a tag", 1, tell(x, "tags 3;"));
        due("tag(8)", 2, x.tag(8));
    }

    // ------------------------------------------------------------ 8 to 13

    private static void promise8() {
        PerhapsRows x = told("mark name;mark name;mark name;mark name;");
        thrown("row -1", NO_SUCH, () -> x.make(-1, 9, 8, 1, 0));
        thrown("row 4", NO_SUCH, () -> x.make(4, 0, 8, 1, 0));
        int[][] refused = {{-1, 8, 1, 0}, {5, 8, 1, 0}, {0, 0, 1, 0}, {0, 65, 1, 0}, {0, 8, 0, 0}, {0, 8, 5, 0},
            {0, 8, 1, 1}, {1, 65, 1, 0}, {1, 8, 1, -1}, {2, 0, 2, 1}, {2, 17, 2, 1}, {2, 8, 1, 1}, {2, 8, 3, 1},
            {2, 8, 2, 0}, {2, 8, 2, 5}, {3, 0, 1, 1}, {3, 17, 1, 1}, {3, 8, 1, 0}, {3, 8, 1, 21}, {3, 8, 5, 1},
            {4, 65, 1, 0}, {4, 8, 4, 0}, {4, 8, 0, 0}, {4, 8, 1, 1}};
        for (int[] r : refused) {
            thrown("make(0," + r[0] + "," + r[1] + "," + r[2] + "," + r[3] + ")", ARGUMENT,
                    () -> x.make(0, r[0], r[1], r[2], r[3]));
        }
        due("none was made", 0, x.count(4));
        int[][] made = {{0, 1, 1, 0}, {0, 64, 4, 0}, {1, 1, 1, 0}, {1, 64, 4, 0}, {2, 1, 2, 1}, {2, 16, 2, 4},
            {3, 1, 1, 1}, {3, 16, 4, 20}, {4, 1, 1, 0}, {4, 64, 3, 0}};
        for (int[] r : made) {
            x.make(3, r[0], r[1], r[2], r[3]);
            for (int what = 0; what < 4; what++) {
                due("of(3," + what + ")", r[what], x.of(3, what));
            }
        }
        due("count(4)", 8, x.count(4));
        x.make(3, 0, 8, 1, 0);
        putAll(x, 3, 5);
        x.make(3, 0, 8, 1, 0);
        due("nobody is in it", 0, x.of(3, 4));
        cells(x, 3, 0, 0, 0, 0, 0, 0, 0, 0);
        PerhapsRows one = told("mark name;");
        thrown("nests without a second mark", ARGUMENT, () -> one.make(0, 2, 4, 2, 1));
    }

    private static void promise9() {
        PerhapsRows x = told(PLAIN);
        x.make(0, 3, 4, 2, 3);
        int[] want = {3, 4, 2, 3, 0, 1, 0};
        for (int what = 0; what < want.length; what++) {
            due("of(0," + what + ")", want[what], x.of(0, what));
        }
        thrown("of(0,7)", ARGUMENT, () -> x.of(0, 7));
        thrown("of(0,-1)", ARGUMENT, () -> x.of(0, -1));
        thrown("of(1,7)", NO_SUCH, () -> x.of(1, 7));
        thrown("of(4,0)", NO_SUCH, () -> x.of(4, 0));
        thrown("of(-1,0)", NO_SUCH, () -> x.of(-1, 0));
        pushesAreKept();
    }

    /** In 4 nests of one slot 4 is at home in 0 1, 9 in 1 2, 0 in 0 alone, 8 in 0 2. */
    private static void pushesAreKept() {
        PerhapsRows x = told(PLAIN);
        x.make(0, 2, 4, 2, 1);
        putAll(x, 0, 4, 9, 0);
        due("pushes of the latest", 2, x.of(0, 6));
        due("put again", 1, x.put(0, 4));
        due("pushes behind one that was there", 2, x.of(0, 6));
        due("put what can't be", NONE, x.put(0, 8));
        due("pushes behind one that can't be", 2, x.of(0, 6));
        due("take", true, x.take(0, 9));
        due("pushes behind one taken", 2, x.of(0, 6));
        putAll(x, 0, 9);
        due("pushes of one that found room", 0, x.of(0, 6));
        x.make(0, 2, 4, 2, 1);
        due("pushes of a new row", 0, x.of(0, 6));
    }

    private static void promise10() {
        PerhapsRows x = told(PLAIN);
        x.make(0, 0, 8, 2, 0);
        x.make(1, 1, 8, 2, 0);
        x.make(2, 2, 4, 2, 2);
        x.make(3, 3, 2, 1, 1);
        for (int row = 0; row < 3; row++) {
            putAll(x, row, 1, 5);
        }
        cells(x, 0, 1, 1, 0, 0, 0, 1, 0, 0);
        cells(x, 1, 1, 2, 0, 0, 0, 1, 0, 0);
        cells(x, 2, 0, 2, 0, 0);
        putAll(x, 3, 1, 2, 7);
        cells(x, 3, 0, 1, 0, 0, 1, 0, 0, 0, 0, 0, 0, 0, 0, 1);
        x.make(3, 4, 3, 1, 0);
        cells(x, 3, 0, 0, 0);
        thrown("no row", NO_SUCH, () -> x.cell(4, 99));
        largestRows();
    }

    private static void largestRows() {
        PerhapsRows x = told("world 256;mark name;");
        x.make(0, 3, 16, 1, 1);
        putAll(x, 0, 0, 1, 2, 255);
        due("the last place of four layers", 1, x.cell(0, 239));
        thrown("behind it", INDEX, () -> x.cell(0, 240));
        due("127 by the fourth layer", true, x.yes(0, 127));
        x.make(1, 0, 64, 1, 0);
        putAll(x, 1, 255);
        due("63 of 64", 1, x.cell(1, 63));
        due("lying", true, x.lying(1));
        due("63, 127, 191 of 255: upper()", 1, x.upper());
        due("63, 127, 191 of 255: lower()", 85, x.lower());
        due("the last lie", 191, x.lie(1, 2));
        x.tray(0, 0, 1);
        due("255 in 8 bits", -1, x.write(0, 0, 255));
        due("which is no name", 0, x.pour(0, 0));
        x.tray(0, 1, 1);
        x.write(0, 0, 255);
        due("255 in 16 bits is one", 1, x.pour(0, 0));
    }

    private static void promise11() {
        PerhapsRows x = told(PLAIN);
        x.make(0, 2, 4, 2, 2);
        putAll(x, 0, 5, 1);
        due("guest(0,1,0)", 5, x.guest(0, 1, 0));
        due("guest(0,1,1)", 1, x.guest(0, 1, 1));
        due("guest(0,0,0)", NONE, x.guest(0, 0, 0));
        thrown("nest 4", INDEX, () -> x.guest(0, 4, 0));
        thrown("nest -1", INDEX, () -> x.guest(0, -1, 0));
        thrown("slot 2", INDEX, () -> x.guest(0, 0, 2));
        thrown("slot -1", INDEX, () -> x.guest(0, 1, -1));
        x.make(1, 0, 8, 2, 0);
        thrown("bits", STATE, () -> x.guest(1, 99, 0));
        thrown("no row", NO_SUCH, () -> x.guest(2, 99, 0));
    }

    private static void promise12() {
        PerhapsRows x = told(PLAIN);
        x.make(0, 0, 8, 2, 0);
        due("nobody was put", false, x.yes(0, 0));
        putAll(x, 0, 1, 5);
        for (int name = 0; name < 16; name++) {
            due("bits: yes(0," + name + ")", name == 0 || name == 1 || name == 5, x.yes(0, name));
        }
        x.make(1, 2, 4, 2, 1);
        putAll(x, 1, 4);
        due("nests: 5 has the tag of 4, and homes 1 1", false, x.yes(1, 5));
        putAll(x, 1, 2);
        due("nests: 3 has the tag of 2, and homes 3 0", false, x.yes(1, 3));
        x.make(1, 2, 2, 2, 4);
        putAll(x, 1, 4);
        due("nests: 5 has homes 1 1", false, x.yes(1, 5));
        due("take", true, x.take(1, 4));
        putAll(x, 1, 5);
        due("nests: 4 has homes 0 1 and the tag of 5", true, x.yes(1, 4));
        x.make(2, 3, 2, 1, 1);
        putAll(x, 2, 1, 2);
        due("layers: 3 by the first", true, x.yes(2, 3));
        due("layers: 6 by the second", true, x.yes(2, 6));
        due("layers: 4 by none", false, x.yes(2, 4));
        x.make(3, 4, 8, 2, 0);
        due("solved: cells of 0 say yes to tag 0", true, x.yes(3, 1));
        due("solved: and to no other", false, x.yes(3, 2));
        thrown("name 16", ARGUMENT, () -> x.yes(0, 16));
        thrown("name -1", ARGUMENT, () -> x.yes(0, -1));
        x.rules(0);
        thrown("no row, no name", NO_SUCH, () -> x.yes(0, -1));
    }

    private static void promise13() {
        PerhapsRows x = told(PLAIN);
        x.make(0, 0, 8, 2, 0);
        putAll(x, 0, 1, 5);
        due("isPut(0,5)", true, x.isPut(0, 5));
        due("a lie is not put", false, x.isPut(0, 0));
        thrown("name 16", ARGUMENT, () -> x.isPut(0, 16));
        thrown("no row", NO_SUCH, () -> x.isPut(1, 16));
    }

    // ------------------------------------------------------------ 14 to 19

    private static void promise14() {
        PerhapsRows x = told(PLAIN);
        x.make(0, 1, 8, 2, 0);
        putAll(x, 0, 0);
        due("a place of two marks counts twice", 2, x.cell(0, 0));
        due("put again", 1, x.put(0, 0));
        due("nothing happened", 2, x.cell(0, 0));
        x.make(1, 3, 1, 1, 1);
        putAll(x, 1, 3, 4, 5);
        due("layers behind three", 3, x.of(1, 5));
        putAll(x, 1, 6);
        due("the four layers are full", NONE, x.put(1, 7));
        due("it isn't put", 4, x.of(1, 4));
        due("who is there already is so", 1, x.put(1, 3));
        x.make(1, 3, 4, 1, 2);
        putAll(x, 1, 1, 2);
        due("no new layer before it is needed", 1, x.of(1, 5));
        x.make(2, 4, 8, 2, 0);
        thrown("solved, no name", STATE, () -> x.put(2, 99));
        thrown("name 16", ARGUMENT, () -> x.put(0, 16));
        thrown("no row", NO_SUCH, () -> x.put(3, 16));
        countsStopAt15();
        nestsArePushed();
    }

    private static void countsStopAt15() {
        PerhapsRows x = told("world 40;mark 0;mark name;");
        x.make(0, 1, 4, 1, 0);
        for (int name = 0; name < 14; name++) {
            x.put(0, name);
        }
        due("14 were put", 14, x.cell(0, 0));
        due("take", true, x.take(0, 3));
        due("one less", 13, x.cell(0, 0));
        putAll(x, 0, 20, 21, 22);
        due("15 at most", 15, x.cell(0, 0));
        due("take", true, x.take(0, 20));
        due("15 stays", 15, x.cell(0, 0));
    }

    private static void nestsArePushed() {
        PerhapsRows x = told(PLAIN);
        x.make(0, 2, 4, 2, 1);
        putAll(x, 0, 4, 9);
        putAll(x, 0, 0);
        due("0 in its nest", 0, x.guest(0, 0, 0));
        due("4 was pushed", 4, x.guest(0, 1, 0));
        due("9 was pushed", 9, x.guest(0, 2, 0));
        due("pushes", 2, x.of(0, 6));
        due("8 finds no way", NONE, x.put(0, 8));
        due("three are put", 3, x.of(0, 4));
        due("and sit as they did", 0, x.guest(0, 0, 0));
        // both nests full, two slots each: slot by slot, so that the first guest's other nest comes first
        PerhapsRows y = told("world 64;mark name;mark name/4;");
        y.make(0, 2, 4, 2, 2);
        putAll(y, 0, 8, 12, 5, 21);
        putAll(y, 0, 4);
        due("8 went to nest 2", 8, y.guest(0, 2, 0));
        due("4 took its slot", 4, y.guest(0, 0, 0));
        due("12 stays", 12, y.guest(0, 0, 1));
        due("pushes", 1, y.of(0, 6));
    }

    private static void promise15() {
        PerhapsRows x = told(PLAIN);
        x.make(0, 1, 8, 2, 0);
        putAll(x, 0, 1, 5);
        due("take(0,1)", true, x.take(0, 1));
        cells(x, 0, 0, 1, 0, 0, 0, 1, 0, 0);
        due("take(0,1) again", false, x.take(0, 1));
        cells(x, 0, 0, 1, 0, 0, 0, 1, 0, 0);
        due("of(0,4)", 1, x.of(0, 4));
        x.make(1, 2, 4, 2, 2);
        putAll(x, 1, 5, 1);
        due("take(1,5)", true, x.take(1, 5));
        due("its slot is free", NONE, x.guest(1, 1, 0));
        due("the other one stays", 1, x.guest(1, 1, 1));
        putAll(x, 1, 13);
        due("the first free slot", 13, x.guest(1, 1, 0));
        due("who isn't put, though a guest has its tag", false, x.take(1, 12));
        for (int kind : new int[] {0, 3, 4}) {
            x.make(2, kind, 8, 2, kind == 3 ? 1 : 0);
            thrown("kind " + kind, STATE, () -> x.take(2, 99));
        }
        thrown("name 16", ARGUMENT, () -> x.take(0, 16));
        thrown("no row", NO_SUCH, () -> x.take(3, 16));
    }

    private static void promise16() {
        PerhapsRows x = told(PLAIN);
        x.make(0, 0, 8, 2, 0);
        x.make(1, 0, 8, 2, 0);
        putAll(x, 0, 1, 5);
        putAll(x, 1, 5, 15);
        due("join(0,1)", 3, x.join(0, 1));
        cells(x, 0, 1, 1, 0, 1, 0, 1, 0, 1);
        cells(x, 1, 0, 1, 0, 1, 0, 1, 0, 1);
        due("the second stays", 2, x.of(1, 4));
        due("isPut(0,15)", true, x.isPut(0, 15));
        x.make(1, 0, 8, 1, 0);
        thrown("unlike marks", STATE, () -> x.join(0, 1));
        x.make(1, 0, 4, 2, 0);
        thrown("unlike sizes", STATE, () -> x.join(0, 1));
        x.make(1, 1, 8, 2, 0);
        thrown("unlike kinds", STATE, () -> x.join(0, 1));
        thrown("both are one", ARGUMENT, () -> x.join(0, 0));
        thrown("no other row", NO_SUCH, () -> x.join(0, 3));
        thrown("no first row", NO_SUCH, () -> x.join(3, 0));
        for (int kind = 2; kind <= 4; kind++) {
            x.make(1, kind, 8, 2, kind == 4 ? 0 : 1);
            thrown("kind " + kind + ", both are one", STATE, () -> x.join(1, 1));
        }
        PerhapsRows y = told("world 40;mark 0;");
        y.make(0, 1, 2, 1, 0);
        y.make(1, 1, 2, 1, 0);
        for (int name = 0; name < 9; name++) {
            putAll(y, 0, name);
            putAll(y, 1, name + 5);
        }
        due("join of counts", 14, y.join(0, 1));
        cells(y, 0, 15, 0);
    }

    private static void promise17() {
        PerhapsRows x = told(PLAIN);
        x.make(0, 0, 8, 2, 0);
        putAll(x, 0, 1, 5, 15);
        due("halve(0)", 4, x.halve(0));
        cells(x, 0, 1, 1, 0, 1);
        due("all are put", 3, x.of(0, 4));
        due("of(0,1)", 4, x.of(0, 1));
        x.make(1, 1, 6, 1, 0);
        putAll(x, 1, 1, 4, 7, 10, 3);
        cells(x, 1, 0, 2, 0, 1, 2, 0);
        due("halve(1)", 3, x.halve(1));
        cells(x, 1, 1, 4, 0);
        thrown("an odd size", STATE, () -> x.halve(1));
        x.make(1, 2, 4, 2, 1);
        thrown("nests", STATE, () -> x.halve(1));
        x.make(1, 3, 4, 2, 1);
        thrown("layers", STATE, () -> x.halve(1));
        x.make(1, 4, 4, 2, 0);
        thrown("solved", STATE, () -> x.halve(1));
        x.make(1, 0, 1, 1, 0);
        thrown("size 1", STATE, () -> x.halve(1));
        thrown("no row", NO_SUCH, () -> x.halve(3));
        PerhapsRows y = told("world 40;mark name%2*size/2;");
        y.make(0, 1, 2, 1, 0);
        for (int name = 0; name < 18; name++) {
            y.put(0, name);
        }
        due("halve of counts", 1, y.halve(0));
        cells(y, 0, 15);
    }

    private static void promise18() {
        PerhapsRows x = told(PLAIN);
        x.make(0, 2, 4, 2, 1);
        putAll(x, 0, 4, 9, 0);
        due("grow(0)", 8, x.grow(0));
        due("by numbers: 0", 0, x.guest(0, 0, 0));
        due("9", 9, x.guest(0, 1, 0));
        due("4", 4, x.guest(0, 4, 0));
        due("pushes of the last one", 0, x.of(0, 6));
        due("grow(0)", 16, x.grow(0));
        thrown("16 nests", STATE, () -> x.grow(0));
        x.make(0, 2, 9, 2, 1);
        thrown("9 nests", STATE, () -> x.grow(0));
        x.make(0, 0, 4, 2, 0);
        thrown("bits", STATE, () -> x.grow(0));
        thrown("no row", NO_SUCH, () -> x.grow(1));
        // in 2 nests a name is at home in its rest by 2, in 4 nests all are in nest 0
        PerhapsRows y = told("mark name*(size-4)/2;mark name*(size-4)/2;");
        y.make(0, 2, 2, 2, 1);
        putAll(y, 0, 1, 2);
        due("grow can't be", NONE, y.grow(0));
        due("all stays: size", 2, y.of(0, 1));
        due("all stays: guest of nest 0", 2, y.guest(0, 0, 0));
        due("all stays: guest of nest 1", 1, y.guest(0, 1, 0));
        due("all stays: who is put", 2, y.of(0, 4));
        due("take", true, y.take(0, 2));
        due("grow then", 4, y.grow(0));
    }

    private static void promise19() {
        PerhapsRows x = told(PLAIN);
        x.make(0, 4, 8, 2, 0);
        fill(x, 0, 2, 3, 5);
        due("solve", 3, x.solve(0, 0));
        cells(x, 0, 1, 2, 0, 0, 0, 0, 0, 0);
        due("three are put", 3, x.of(0, 4));
        for (int name : new int[] {2, 3, 5}) {
            due("yes(0," + name + ")", true, x.yes(0, name));
        }
        fill(x, 1, 10);
        due("10 holds cell 2 twice and asks for 5", NONE, x.solve(0, 1));
        due("all stays", 3, x.of(0, 4));
        fill(x, 1, 0, 1);
        due("0 holds cell 0 twice and asks for nothing", 2, x.solve(0, 1));
        due("who was put isn't any more", false, x.isPut(0, 2));
        cells(x, 0, 0, 0, 0, 0, 0, 0, 0, 0);
        fill(x, 1);
        due("for nobody", 0, x.solve(0, 1));
        due("nobody is put", 0, x.of(0, 4));
        fill(x, 1, 4, 4);
        thrown("two alike", ARGUMENT, () -> x.solve(0, 1));
        fill(x, 1, 16);
        thrown("no name", ARGUMENT, () -> x.solve(0, 1));
        fill(x, 1, -1);
        thrown("no name", ARGUMENT, () -> x.solve(0, 1));
        fill(x, 1, 1L << 32);
        thrown("no name, though its lower half is one", ARGUMENT, () -> x.solve(0, 1));
        thrown("missing", STATE, () -> x.solve(0, 2));
        thrown("no tray", NO_SUCH, () -> x.solve(0, 4));
        x.make(1, 0, 8, 2, 0);
        thrown("bits", STATE, () -> x.solve(1, 1));
        thrown("bits, no tray", NO_SUCH, () -> x.solve(1, -1));
        thrown("no row", NO_SUCH, () -> x.solve(2, 1));
        PerhapsRows y = told("mark name;mark name;mark name;");
        y.make(0, 4, 8, 3, 0);
        fill(y, 0, 3);
        due("a cell that is there three times stays once", 1, y.solve(0, 0));
        due("cell(0,3)", 3, y.cell(0, 3));
    }

    // ------------------------------------------------------------ 20 to 26

    private static void promise20to22() {
        PerhapsRows x = told(PLAIN);
        x.make(0, 0, 8, 2, 0);
        due("nobody is put", true, x.lying(0));
        due("upper()", 0, x.upper());
        due("0 over 16, least", 1, x.lower());
        putAll(x, 0, 1, 5);
        due("lying", true, x.lying(0));
        due("upper()", 1, x.upper());
        due("lower()", 14, x.lower());
        putAll(x, 0, 15, 11);
        // bits 0 1 2 3 5 7: of 0 2 3 4 6 7 8 9 10 12 13 14 the lies are 0 2 3 7 8 9 10 13
        due("lying", true, x.lying(0));
        due("8 over 12: upper()", 2, x.upper());
        due("8 over 12: lower()", 3, x.lower());
        thrown("no row", NO_SUCH, () -> x.lying(1));
        due("the fraction stays behind a throw", 3, x.lower());
        x.image(0);
        x.make(1, 0, 1, 1, 0);
        for (int name = 0; name < 16; name++) {
            x.put(1, name);
        }
        due("all are put", false, x.lying(1));
        due("upper()", 0, x.upper());
        due("0 over 0", 0, x.lower());
        due("lying", true, x.lying(0));
        x.restore(0);
        x.rules(0);
        due("the fraction is none of the image nor of the rules", 3, x.lower());
    }

    private static void promise23() {
        PerhapsRows x = told(PLAIN);
        x.make(0, 0, 8, 2, 0);
        putAll(x, 0, 1, 5, 15, 11);
        int[] lies = {0, 2, 3, 7, 8, 9, 10, 13, NONE};
        for (int k = 0; k < lies.length; k++) {
            due("lie(0," + k + ")", lies[k], x.lie(0, k));
        }
        due("lie(0,-1)", NONE, x.lie(0, -1));
        due("lie(0,max)", NONE, x.lie(0, Integer.MAX_VALUE));
        thrown("no row", NO_SUCH, () -> x.lie(1, 0));
    }

    private static void promise24() {
        PerhapsRows x = told(PLAIN);
        x.make(0, 0, 8, 2, 0);
        putAll(x, 0, 1, 5, 15, 11);
        fill(x, 0, 9, 1, 4, 99, -1, 2, 9, 1L << 32);
        due("how many", 3, x.wronged(0, 0, NONE));
        int[] want = {9, 2, 9, NONE};
        for (int k = 0; k < want.length; k++) {
            due("wronged(0,0," + k + ")", want[k], x.wronged(0, 0, k));
        }
        due("wronged(0,0,-2)", NONE, x.wronged(0, 0, -2));
        fill(x, 1);
        due("an empty tray", 0, x.wronged(0, 1, NONE));
        thrown("missing", STATE, () -> x.wronged(0, 2, 0));
        thrown("no tray", NO_SUCH, () -> x.wronged(0, 4, 0));
        thrown("no row", NO_SUCH, () -> x.wronged(1, 2, 0));
    }

    private static void promise25() {
        PerhapsRows x = told(PLAIN);
        x.make(0, 0, 8, 2, 0);
        putAll(x, 0, 1, 5, 15, 11);
        x.make(1, 3, 8, 2, 20);
        putAll(x, 1, 1, 5);
        due("worse(0,1)", 7, x.worse(0, 1));
        due("worse(1,0)", -7, x.worse(1, 0));
        due("worse(0,0)", 0, x.worse(0, 0));
        thrown("no other row", NO_SUCH, () -> x.worse(0, 2));
        thrown("no row", NO_SUCH, () -> x.worse(2, 0));
    }

    private static void promise26() {
        PerhapsRows x = told("world 16;mark name;");
        x.make(0, 0, 7, 1, 0);
        putAll(x, 0, 0, 5);
        fill(x, 0, 4, 9, 4, 5, 6);
        fill(x, 1, 4, 5);
        // level 0 has 0 1 of 4: 4 and 9 are left; level 1 has 4 of 5: neither 0 nor 5
        due("levels", 2, x.cascade(0, 0, 1, 0));
        due("took", 4, x.cascade(0, 0, 1, 1));
        due("sizes", 9, x.cascade(0, 0, 1, 2));
        fill(x, 1, 4, 4, 8, 64);
        // level 1 has 0 1 of 4: 0 and 5 are left; level 2 has 0 5 of 8: neither 4 nor 9
        due("levels", 3, x.cascade(0, 0, 1, 0));
        due("took", 6, x.cascade(0, 0, 1, 1));
        due("sizes", 16, x.cascade(0, 0, 1, 2));
        fill(x, 1, 4, 4, 4);
        for (int what = 0; what < 3; what++) {
            due("sizes end before", NONE, x.cascade(0, 0, 1, what));
        }
        fill(x, 1);
        due("no sizes", NONE, x.cascade(0, 0, 1, 0));
        fill(x, 1, 8, 65);
        thrown("a size of 65, though none needs it", ARGUMENT, () -> x.cascade(0, 0, 1, 0));
        fill(x, 1, 0);
        thrown("a size of 0", ARGUMENT, () -> x.cascade(0, 0, 1, 0));
        fill(x, 1, 64);
        due("one level", 1, x.cascade(0, 0, 1, 0));
        thrown("what 3", ARGUMENT, () -> x.cascade(0, 0, 1, 3));
        thrown("what -1", ARGUMENT, () -> x.cascade(0, 0, 1, -1));
        fill(x, 0, 16);
        thrown("no name", ARGUMENT, () -> x.cascade(0, 0, 1, 0));
        thrown("a missing list", STATE, () -> x.cascade(0, 2, 1, 9));
        thrown("missing sizes", STATE, () -> x.cascade(0, 0, 2, 9));
        thrown("no such list", NO_SUCH, () -> x.cascade(0, 4, 2, 9));
        thrown("no such sizes", NO_SUCH, () -> x.cascade(0, 2, 4, 9));
        x.make(1, 1, 8, 1, 0);
        thrown("counts", STATE, () -> x.cascade(1, 0, 1, 9));
        x.make(1, 0, 8, 1, 0);
        fill(x, 0, 3);
        due("nobody is put: level 0 alone", 1, x.cascade(1, 0, 1, 0));
        due("nobody was taken", 0, x.cascade(1, 0, 1, 1));
        thrown("no row", NO_SUCH, () -> x.cascade(2, 0, 1, 0));
    }

    // ------------------------------------------------------------ 27 to 31

    private static void promise27() {
        PerhapsRows x = told(PLAIN);
        x.make(0, 0, 8, 2, 0);
        putAll(x, 0, 1, 5, 15);
        // bits 0 1 3 5 7; asked 5 (5 1), 9 (no), 3 (3 0): known 0 1 3 5
        fill(x, 0, 5, 9, 3, 5);
        due("places", 4, x.learn(0, 0, 0));
        due("known: 0 1 3 5 13", 5, x.learn(0, 0, 1));
        due("of these not asked: 0 1 13", 3, x.learn(0, 0, 2));
        fill(x, 1);
        due("who asked nobody", 0, x.learn(0, 1, 0));
        due("knows nobody", 0, x.learn(0, 1, 1));
        whoAsksWrongly(x);
        thrown("what 3", ARGUMENT, () -> x.learn(0, 0, 3));
        thrown("what -1", ARGUMENT, () -> x.learn(0, 0, -1));
        thrown("missing, what 3", STATE, () -> x.learn(0, 3, 3));
    }

    private static void whoAsksWrongly(PerhapsRows x) {
        fill(x, 1, 16);
        thrown("learn: no name", ARGUMENT, () -> x.learn(0, 1, 0));
        thrown("ask: no name", ARGUMENT, () -> x.ask(0, 1));
        thrown("learn: missing", STATE, () -> x.learn(0, 3, 0));
        thrown("ask: missing", STATE, () -> x.ask(0, 3));
        thrown("learn: no tray", NO_SUCH, () -> x.learn(0, 4, 0));
        thrown("ask: no tray", NO_SUCH, () -> x.ask(0, -1));
        x.make(1, 1, 8, 2, 0);
        thrown("learn: counts", STATE, () -> x.learn(1, 1, 0));
        thrown("ask: counts", STATE, () -> x.ask(1, 1));
        thrown("learn: no row", NO_SUCH, () -> x.learn(2, 1, 0));
        thrown("ask: no row", NO_SUCH, () -> x.ask(2, 1));
    }

    private static void promise28() {
        PerhapsRows x = told(PLAIN);
        x.make(0, 0, 8, 2, 0);
        putAll(x, 0, 1, 5, 15);
        fill(x, 0, 5, 9, 3);
        // known 0 1 3 5; 2 (2 0) has one that isn't known, so have 4 6 7 8 10 11 12 14 15: none has two
        due("the least of the best", 2, x.ask(0, 0));
        fill(x, 0);
        due("1 has two places, 0 only one", 1, x.ask(0, 0));
        fill(x, 0, 1, 2);
        due("known 0 1: 11 (3 2) has two, but 5 (5 1) one, 4 one", 9 + 2, x.ask(0, 0));
        whoAsksWrongly(x);
        fill(x, 0, 0, 1, 2, 3, 4, 5, 6, 7, 8, 9, 10, 11, 12, 13, 15);
        due("the only one left", 14, x.ask(0, 0));
        fill(x, 0, 0, 1, 2, 3, 4, 5, 6, 7, 8, 9, 10, 11, 12, 13, 15, 14);
        due("all were asked", NONE, x.ask(0, 0));
    }

    private static void promise29() {
        PerhapsRows x = told(PLAIN);
        x.make(0, 0, 8, 2, 0);
        putAll(x, 0, 1, 5);
        due("the name", 11, x.worst(0, 0));
        due("0 2 3 8 9 10 13", 7, x.worst(0, 1));
        due("it isn't put by that", 2, x.of(0, 4));
        thrown("what 2", ARGUMENT, () -> x.worst(0, 2));
        thrown("what -1", ARGUMENT, () -> x.worst(0, -1));
        x.make(1, 0, 1, 1, 0);
        for (int name = 0; name < 15; name++) {
            x.put(1, name);
        }
        due("the last one", 15, x.worst(1, 0));
        due("without lies then", 0, x.worst(1, 1));
        x.put(1, 15);
        due("all are put", NONE, x.worst(1, 0));
        due("all are put", NONE, x.worst(1, 1));
        x.make(1, 1, 1, 1, 0);
        thrown("counts", STATE, () -> x.worst(1, 9));
        thrown("no row", NO_SUCH, () -> x.worst(2, 9));
    }

    private static void promise30() {
        PerhapsRows x = told(PLAIN);
        x.make(0, 0, 8, 2, 0);
        putAll(x, 0, 1, 5, 15, 11);
        due("one who is put", 1, x.blame(0, 15));
        due("0 by 1 alone", 1, x.blame(0, 0));
        due("2 (2 0) by 11 and 1", 2, x.blame(0, 2));
        due("10 (2) by 11", 1, x.blame(0, 10));
        due("the row says no", NONE, x.blame(0, 4));
        x.make(1, 1, 8, 2, 0);
        thrown("counts", STATE, () -> x.blame(1, 99));
        thrown("no name", ARGUMENT, () -> x.blame(0, 16));
        thrown("no row", NO_SUCH, () -> x.blame(2, 16));
        PerhapsRows y = told("world 64;mark name%4;mark 4+name/4%4;mark 8+name/16;");
        y.make(0, 0, 16, 3, 0);
        putAll(y, 0, 1, 4, 16);
        due("21 needs all three", 3, y.blame(0, 21));
        due("5 needs two", 2, y.blame(0, 5));
        putAll(y, 0, 20);
        due("21 needs two then", 2, y.blame(0, 21));
        // a mark that is size/2 of 8, and 1 of 4: what the bits of 8 were doesn't tell the places of 4
        PerhapsRows z = told("world 4;mark size/8*2+name*0+size%8/4*1;");
        z.make(0, 0, 8, 1, 0);
        putAll(z, 0, 3);
        due("halve", 4, z.halve(0));
        due("the row says no by its size now", false, z.yes(0, 3));
        due("yet the places of 3 hold those of 0 by its size now", 1, z.blame(0, 0));
    }

    private static void promise31() {
        PerhapsRows x = told("world 24;mark name;");
        x.make(0, 4, 8, 1, 0);
        fill(x, 0, 0);
        x.solve(0, 0);
        int[][] want = {{12, 8, 1, 2}, {19, 8, 1, 2}, {20, 16, 1, 1}, {27, 16, 1, 1}, {28, 24, 1, 0}, {999, 24, 1, 0}};
        for (int[] w : want) {
            for (int what = 0; what < 3; what++) {
                due("choose(0," + w[0] + "," + what + ")", w[what + 1], x.choose(0, w[0], what));
            }
        }
        for (int what = 0; what < 3; what++) {
            int asked = what;
            due("choose(0,11," + what + ")", NONE, x.choose(0, 11, asked));
            due("choose(0,0," + what + ")", NONE, x.choose(0, 0, asked));
        }
        thrown("money -1", ARGUMENT, () -> x.choose(0, -1, 0));
        thrown("money 1000", ARGUMENT, () -> x.choose(0, 1000, 0));
        thrown("what 3", ARGUMENT, () -> x.choose(0, 12, 3));
        thrown("what -1", ARGUMENT, () -> x.choose(0, 12, -1));
        thrown("no row", NO_SUCH, () -> x.choose(1, -1, 0));
        // 8 places with 3 marks and 16 with 1 cost the same and have no lie
        PerhapsRows y = told("world 16;mark name;mark 0;mark name/8;");
        y.make(0, 0, 64, 1, 0);
        putAll(y, 0, 0);
        due("the least size", 8, y.choose(0, 100, 0));
        due("with 3 marks", 3, y.choose(0, 100, 1));
        due("and no lie", 0, y.choose(0, 100, 2));
    }

    // ------------------------------------------------------------ 32 to 37

    private static void promise32() {
        PerhapsRows x = told(PLAIN);
        x.make(0, 0, 8, 1, 0);
        x.tray(0, 0, 40);
        due("write to the last place", 7, x.write(0, 39, 7));
        x.tray(0, 3, 2);
        due("a row of 0s: 0 is put", 2, x.pour(0, 0));
        due("of(0,4)", 1, x.of(0, 4));
        x.tray(3, 3, 0);
        thrown("an empty one has no place", INDEX, () -> x.write(3, 0, 0));
        int[][] refused = {{-1, 0}, {4, 0}, {0, -1}, {0, 41}};
        for (int[] r : refused) {
            thrown("tray(0," + r[0] + "," + r[1] + ")", ARGUMENT, () -> x.tray(0, r[0], r[1]));
        }
        due("it stays behind a throw", 1, x.write(0, 1, 1));
        thrown("tray(4,9,9)", NO_SUCH, () -> x.tray(4, 9, 99));
        thrown("tray(-1,0,0)", NO_SUCH, () -> x.tray(-1, 0, 0));
    }

    private static void promise33() {
        PerhapsRows x = new PerhapsRows();
        long v = 0x123456789abcdef0L;
        long[] want = {(byte) 0xf0, (short) 0xdef0, 0x9abcdef0, v};
        for (int sort = 0; sort < 4; sort++) {
            x.tray(sort, sort, 3);
            due("write of sort " + sort, want[sort], x.write(sort, 2, v));
            due("write of 100", 100, x.write(sort, 0, 100));
        }
        due("200 in 8 bits", -56, x.write(0, 0, 200));
        thrown("place 3", INDEX, () -> x.write(0, 3, 0));
        thrown("place -1", INDEX, () -> x.write(0, -1, 0));
        PerhapsRows y = new PerhapsRows();
        thrown("missing", STATE, () -> y.write(3, -1, 0));
        thrown("no tray", NO_SUCH, () -> y.write(4, -1, 0));
    }

    private static void promise34() {
        PerhapsRows x = told(PLAIN);
        x.make(0, 0, 8, 2, 0);
        putAll(x, 0, 5);
        fill(x, 0, 1, 5, 1, 16, 9);
        due("till one is no name", 3, x.pour(0, 0));
        due("isPut(0,9)", false, x.isPut(0, 9));
        due("of(0,4)", 2, x.of(0, 4));
        x.make(1, 3, 1, 1, 1);
        fill(x, 1, 1, 2, 3, 4, 5, 1);
        due("till one can't be", 4, x.pour(1, 1));
        fill(x, 1);
        due("an empty tray", 0, x.pour(1, 1));
        fill(x, 1, -1);
        due("none", 0, x.pour(1, 1));
        x.make(2, 4, 8, 2, 0);
        thrown("solved", STATE, () -> x.pour(2, 0));
        thrown("missing", STATE, () -> x.pour(0, 3));
        thrown("no tray", NO_SUCH, () -> x.pour(2, 4));
        thrown("no row", NO_SUCH, () -> x.pour(3, 3));
    }

    private static void promise35and36() {
        PerhapsRows x = told(PLAIN);
        x.make(0, 2, 4, 2, 1);
        putAll(x, 0, 4, 9, 0);
        x.make(1, 3, 2, 1, 1);
        putAll(x, 1, 1, 2);
        x.image(0);
        x.image(2);
        due("take", true, x.take(0, 9));
        putAll(x, 0, 8);
        putAll(x, 1, 3);
        x.image(2);
        due("other rules", 1, tell(x, "mark 7;"));
        x.make(3, 0, 1, 1, 0);
        tell(x, "$");
        feedText(x, "12345678901234567890");
        x.tray(0, 0, 1);
        x.restore(0);
        due("rows", 3, x.count(4));
        due("lines", 5, x.count(0));
        due("world", 16, x.count(1));
        due("value(1,9,8)", 2, x.value(1, 9, 8));
        due("tag(9)", 4, x.tag(9));
        due("guest", 9, x.guest(0, 2, 0));
        due("pushes", 2, x.of(0, 6));
        due("layers", 2, x.of(1, 5));
        putAll(x, 1, 5);
        due("the next layer", 3, x.of(1, 5));
        due("the tape stays", 20, x.count(5));
        due("the fault stays", 1, x.fault(0));
        due("trays stay", 5, x.write(0, 0, 5));
        x.restore(2);
        due("the other image", 8, x.guest(0, 2, 0));
        x.restore(0);
        due("an image isn't touched by what follows", 2, x.of(1, 5));
        thrown("none was made", STATE, () -> x.restore(1));
        for (int i : new int[] {-1, 3, 32}) {
            thrown("image(" + i + ")", NO_SUCH, () -> x.image(i));
            thrown("restore(" + i + ")", NO_SUCH, () -> x.restore(i));
        }
    }

    private static void promise37() {
        PerhapsRows x = told(PLAIN);
        x.make(1, 0, 8, 1, 0);
        x.make(3, 0, 8, 1, 0);
        feedText(x, "mark 1;");
        int[] want = {5, 16, 8, 2, 10, 20, NONE};
        for (int what = 0; what < want.length; what++) {
            due("count(" + what + ")", want[what], x.count(what));
        }
        due("count(-1)", NONE, x.count(-1));
        due("count(min)", NONE, x.count(Integer.MIN_VALUE));
    }

    public static void main(String[] args) {
        Call[] all = {null, PromisesTest::promise1, PromisesTest::promise2, PromisesTest::promise3,
            PromisesTest::promise4, PromisesTest::promise5, PromisesTest::promise6, PromisesTest::promise7,
            PromisesTest::promise8, PromisesTest::promise9, PromisesTest::promise10, PromisesTest::promise11,
            PromisesTest::promise12, PromisesTest::promise13, PromisesTest::promise14, PromisesTest::promise15,
            PromisesTest::promise16, PromisesTest::promise17, PromisesTest::promise18, PromisesTest::promise19,
            PromisesTest::promise20to22, null, null, PromisesTest::promise23, PromisesTest::promise24,
            PromisesTest::promise25, PromisesTest::promise26, PromisesTest::promise27, PromisesTest::promise28,
            PromisesTest::promise29, PromisesTest::promise30, PromisesTest::promise31, PromisesTest::promise32,
            PromisesTest::promise33, PromisesTest::promise34, PromisesTest::promise35and36, null,
            PromisesTest::promise37};
        for (int promise = 1; promise < all.length; promise++) {
            if (all[promise] != null) {
                about("promise " + promise);
                all[promise].make();
            }
        }
        report("the promises");
    }
}
