/** The boundaries that the document names in THE RULES and in promises 1 to 7, each in an edge of its own. */
public final class EdgesRulesTest extends Checks {
    private static final int BLANKS = 0x20202020;
    private static final String SIX_MARKS = "mark 1;mark 1;mark 1;mark 1;mark 1;mark 1;";
    private static final String SIX_OPEN = "((((((1))))))";

    private EdgesRulesTest() {
    }

    // ------------------------------------------------------------ 1, 2

    private static void aNewObject() {
        about("promise 1");
        edge("no LINES", () -> due("count(0)", 0, Houses.empty().count(0)));
        edge("WORLD 64", () -> due("count(1)", 64, Houses.empty().count(1)));
        edge("TAGS 16", () -> due("count(2)", 16, Houses.empty().count(2)));
        edge("no MARKS", () -> due("count(3)", 0, Houses.empty().count(3)));
        edge("the TAG of a name is it, modulo 16", () -> {
            due("tag(15)", 15, Houses.empty().tag(15));
            due("tag(16)", 0, Houses.empty().tag(16));
        });
        edge("names are 0 to 63", () -> {
            due("tag(0)", 0, Houses.empty().tag(0));
            due("tag(63)", 15, Houses.empty().tag(63));
            thrown("tag(64)", ARGUMENT, () -> Houses.empty().tag(64));
        });
        edge("no ROWS", () -> {
            due("count(4)", 0, Houses.empty().count(4));
            for (int r = 0; r < 4; r++) {
                int row = r;
                thrown("of(" + row + ",0)", NO_SUCH, () -> Houses.empty().of(row, 0));
            }
        });
        edge("TRAYS are MISSING", () -> {
            for (int t = 0; t < 4; t++) {
                int tray = t;
                thrown("write(" + tray + ",0,0)", STATE, () -> Houses.empty().write(tray, 0, 0));
            }
        });
        edge("an empty tape", () -> due("count(5)", 0, Houses.empty().count(5)));
        edge("no FRACTION", () -> {
            due("upper()", 0, Houses.empty().upper());
            due("lower()", 0, Houses.empty().lower());
        });
        edge("no FAULT at first", () -> {
            due("fault(0)", 0, Houses.empty().fault(0));
            due("fault(1)", NONE, Houses.empty().fault(1));
        });
        edge("no IMAGES at first", () -> {
            for (int i = 0; i < 3; i++) {
                int image = i;
                thrown("restore(" + image + ")", STATE, () -> Houses.empty().restore(image));
            }
        });
        edge("what happened to another object is nothing to it", () -> {
            PerhapsRows x = Houses.empty();
            Houses.full();
            due("count(3)", 0, x.count(3));
            due("count(4)", 0, x.count(4));
            due("count(5)", 0, x.count(5));
            thrown("write(0,0,0)", STATE, () -> x.write(0, 0, 0));
            thrown("restore(0)", STATE, () -> x.restore(0));
        });
        edge("NONE is -1", () -> due("NONE", -1, PerhapsRows.NONE));
    }

    private static PerhapsRows fed(int times) {
        PerhapsRows x = Houses.full();
        x.rules(0);
        for (int i = 0; i < times; i++) {
            feedText(x, "mark 1;mark name+2; ");
        }
        return x;
    }

    private static void feeding() {
        about("promise 2");
        edge("twenty bytes, the highest of each int first", () -> {
            PerhapsRows x = told("mark 1234+name*5678;");
            due("value(0,1,1)", 6912, x.value(0, 1, 1));
        });
        edge("bytes above 127 are no letters, wherever they are", () -> {
            for (int shift = 0; shift < 32; shift += 8) {
                PerhapsRows x = Houses.empty();
                x.feed(BLANKS & ~(255 << shift) | 0xf3 << shift, BLANKS, BLANKS, BLANKS, BLANKS);
                due("rules(20)", -11, x.rules(20));
                due("fault(1)", 3 - shift / 8, x.fault(1));
            }
        });
        edge("they come behind those on the tape", () -> {
            PerhapsRows x = Houses.empty();
            due("feed", 20, x.feed(BLANKS, BLANKS, BLANKS, BLANKS, 0x206d6172));
            due("feed", 40, x.feed(0x6b20373b, BLANKS, BLANKS, BLANKS, BLANKS));
            due("rules(40)", 1, x.rules(40));
            due("value(0,0,1)", 7, x.value(0, 0, 1));
        });
        edge("how many it has, up to 600", () -> {
            due("the 29th", 580, fed(29).count(5));
            due("the 30th", 600, fed(29).feed(0, 0, 0, 0, 0));
        });
        edge("NONE, and nothing changes, if there would be more than 600",
                () -> stays(NONE, () -> fed(30), x -> x.feed(0x78787878, 0x78787878, 0x78787878, 0x78787878, 0x78787878)));
        edge("there is room again when the tape was read", () -> {
            PerhapsRows x = fed(30);
            x.feed(0, 0, 0, 0, 0);
            x.rules(0);
            due("feed", 20, x.feed(0, 0, 0, 0, 0));
        });
    }

    // ------------------------------------------------------------ 3

    private static PerhapsRows fullWithTape(String text) {
        PerhapsRows x = Houses.full();
        x.rules(0);
        x.restore(0);
        feedText(x, text);
        return x;
    }

    private static void rulesAreRead() {
        about("promise 3");
        edge("n is below 0", () -> refused(ARGUMENT, x -> x.rules(-1)));
        edge("n is far below 0", () -> refused(ARGUMENT, x -> x.rules(MIN)));
        edge("n is above what it has", () -> refused(ARGUMENT, x -> x.rules(21)));
        edge("n is far above what it has", () -> refused(ARGUMENT, x -> x.rules(MAX)));
        edge("n is above what a full tape has", () -> refused(ARGUMENT, () -> fed(30), x -> x.rules(601)));
        edge("n is above what an empty tape has", () -> refused(ARGUMENT, Houses::empty, x -> x.rules(1)));
        edge("n is all that it has", () -> due("rules(20)", 2, Houses.full().rules(20)));
        edge("a TEXT of 600 bytes, the last one read", () -> {
            PerhapsRows x = told(" ".repeat(593) + "mark 7;");
            due("value(0,0,1)", 7, x.value(0, 0, 1));
        });
        edge("a TEXT of 600 bytes that is one expression", () -> {
            PerhapsRows x = told("mark  1" + "+1".repeat(296) + ";");
            due("value(0,0,1)", 297, x.value(0, 0, 1));
        });
        edge("a TEXT of 600 bytes with a FAULT at its end", () -> {
            PerhapsRows x = Houses.empty();
            due("rules(600)", -12, tell(x, " ".repeat(593) + "mark 71"));
            due("fault(1)", 600, x.fault(1));
        });
        edge("n is 0: THE RULES are without a text", () -> {
            PerhapsRows x = Houses.full();
            due("rules(0)", 0, x.rules(0));
            due("count(0)", 0, x.count(0));
            due("count(1)", 64, x.count(1));
            due("count(2)", 16, x.count(2));
            due("count(3)", 0, x.count(3));
            due("tag(9)", 9, x.tag(9));
        });
        edge("blanks alone are no LINES", () -> due("rules(3)", 0, tell(Houses.empty(), "\n \n")));
        edge("the first n bytes: those behind them are gone", () -> {
            PerhapsRows x = Houses.full();
            due("rules(8)", 1, x.rules(8));
            due("count(1)", 9, x.count(1));
            due("count(3)", 0, x.count(3));
            due("count(5)", 0, x.count(5));
        });
        edge("no ROWS are there then", () -> {
            PerhapsRows x = Houses.full();
            x.rules(20);
            due("count(4)", 0, x.count(4));
            thrown("of(0,0)", NO_SUCH, () -> x.of(0, 0));
        });
        edge("rows that are made anew then are empty", () -> {
            PerhapsRows x = Houses.full();
            x.rules(20);
            x.make(3, 3, 2, 1, 2);
            due("of(3,4)", 0, x.of(3, 4));
            due("of(3,5)", 1, x.of(3, 5));
            cells(x, 3, 0, 0);
        });
        edge("TRAYS, the FRACTION and IMAGES stay", () -> unchanged(Houses::full, x -> x.rules(20), Look.allBut(
                Look.RULES, Look.ROW, Look.ROW + 1, Look.ROW + 2, Look.ROW + 3, Look.TAPE, Look.FAULT)));
        edge("the numbers of a TRAY stay", () -> {
            PerhapsRows x = told(PLAIN);
            fill(x, 0, 3, 9, 3);
            due("rules", 2, tell(x, "world 10;mark 1;"));
            x.make(0, 0, 1, 1, 0);
            due("pour(0,0)", 3, x.pour(0, 0));
            due("of(0,4)", 2, x.of(0, 4));
            due("isPut(0,3)", true, x.isPut(0, 3));
            due("isPut(0,9)", true, x.isPut(0, 9));
        });
        edge("TEXTS of 600 bytes, one behind the other", () -> {
            PerhapsRows x = Houses.empty();
            for (int i = 1; i < 10; i++) {
                due("rules(600)", 1, tell(x, "mark  " + i + "+1".repeat(296) + ";"));
                due("value(0,0,1)", 296 + i, x.value(0, 0, 1));
                due("place(0,0,100)", (296 + i) % 100, x.place(0, 0, 100));
            }
        });
        faultsOfRules();
    }

    private static void faultsOfRules() {
        String[] texts = {"$", "mark 1", "tags 1;", SIX_MARKS + "mark", "mark ((((((("};
        for (int kind = 1; kind <= 5; kind++) {
            String text = texts[kind - 1];
            int answer = -10 - kind;
            edge("-10 less the FAULT " + kind + ", all else stays", () -> {
                due("rules of " + text, answer, fullWithTape(text).rules(text.length()));
                unchanged(() -> fullWithTape(text), x -> x.rules(text.length()), Look.allBut(Look.TAPE, Look.FAULT));
            });
        }
        edge("the tape is empty then, behind a FAULT, too", () -> {
            PerhapsRows x = fullWithTape("$");
            x.rules(1);
            due("count(5)", 0, x.count(5));
        });
        edge("TEXTS that stop amid an expression leave nothing to the next one", () -> {
            PerhapsRows x = Houses.empty();
            for (int i = 0; i < 10; i++) {
                due("rules", -12, tell(x, "mark 1+2*((((((3+4*"));
                due("rules", -11, tell(x, "tag 1-(((2*(3%$"));
            }
            due("rules", 1, tell(x, "mark 1+2*((((((3+4*name))))));"));
            due("value(0,5,1)", 47, x.value(0, 5, 1));
        });
        edge("LINES ahead of a FAULT change nothing", () -> {
            String text = "world 9;tags 9;tag 5;mark 5;$";
            due("rules", -11, fullWithTape(text).rules(text.length()));
            unchanged(() -> fullWithTape(text), x -> x.rules(text.length()), Look.RULES_AND_ROWS);
        });
    }

    private static void theRules() {
        about("the rules");
        edge("world 2", () -> due("count(1)", 2, told("world 2;").count(1)));
        edge("world 256", () -> due("count(1)", 256, told("world 256;").count(1)));
        edge("tags 2", () -> due("count(2)", 2, told("tags 2;").count(2)));
        edge("tags 64", () -> due("count(2)", 64, told("tags 64;").count(2)));
        edge("a later world strikes", () -> due("count(1)", 10, told("world 99;mark 1;world 10;").count(1)));
        edge("a later tags strikes", () -> due("count(2)", 4, told("tags 64;tags 4;").count(2)));
        edge("a later tag strikes", () -> due("tag(1)", 3, told("tag 2;tag 3;").tag(1)));
        edge("lines that are struck are LINES", () -> due("count(0)", 4, told("tag 2;tag 3;world 9;world 9;").count(0)));
        edge("without a world WORLD is 64", () -> due("count(1)", 64, told("tags 9;mark 1;").count(1)));
        edge("without tags TAGS is 16", () -> due("count(2)", 16, told("world 9;mark 1;").count(2)));
        edge("without a tag the TAG of a name is it", () -> due("tag(6)", 1, told("tags 5;mark 7;").tag(6)));
        edge("MARKS are numbered from 0 on as they come", () -> {
            PerhapsRows x = told("mark 10;world 9;mark 11;tag 3;mark 12;");
            for (int mark = 0; mark < 3; mark++) {
                due("value(" + mark + ",0,1)", 10 + mark, x.value(mark, 0, 1));
            }
        });
        edge("at most 6 MARKS", () -> {
            PerhapsRows x = told("mark 0;mark 1;mark 2;mark 3;mark 4;mark 5;");
            due("count(3)", 6, x.count(3));
            due("value(5,0,1)", 5, x.value(5, 0, 1));
        });
        edge("other lines behind 6 MARKS", () -> due("rules", 9, tell(Houses.empty(), SIX_MARKS + "world 9;tags 9;tag 1;")));
        edge("6 ( open around one another", () -> due("value", 1, told("mark " + SIX_OPEN + ";").value(0, 0, 1)));
        edge("more than 6 ( beside one another", () -> due("value", 3,
                told("mark " + SIX_OPEN + "+" + SIX_OPEN + "+(1);").value(0, 0, 1)));
        edge("6 ( around one another in a tag", () -> due("tag(9)", 1, told("tag " + SIX_OPEN + ";").tag(9)));
        edge("words and numbers go as long as they can, without blanks", () -> {
            PerhapsRows x = told("world64;mark12;tags3;tag1;");
            due("count(0)", 4, x.count(0));
            due("value(0,0,1)", 12, x.value(0, 0, 1));
        });
        edge("blanks are 10 and 32, many of them, everywhere", () -> {
            PerhapsRows x = told("\n\n  mark\n( name  +\n1 )\n;  \n");
            due("value(0,4,1)", 5, x.value(0, 4, 1));
        });
        edge("a number of 5 digits", () -> due("value", 99999, told("mark 99999;").value(0, 0, 1)));
        edge("zeros ahead count as digits", () -> due("count(1)", 64, told("world 00064;").count(1)));
    }

    // ------------------------------------------------------------ 4

    private static void faulty(String sentence, String text, int kind, int place) {
        edge(sentence + " (" + text + ")", () -> {
            PerhapsRows x = Houses.empty();
            due("rules", -10 - kind, tell(x, text));
            due("fault(0)", kind, x.fault(0));
            due("fault(1)", place, x.fault(1));
        });
    }

    /** What a text of this byte alone is: 0 without FAULT. */
    private static int kindOfByte(int b) {
        if (b == 10 || b == 32) {
            return 0;
        }
        boolean token = b >= 'a' && b <= 'z' || b >= '0' && b <= '9' || ";()+-*/%".indexOf(b) >= 0;
        return token ? 2 : 1;
    }

    private static void faultsOfTokens() {
        about("promise 4, FAULT 1");
        edge("each byte: no TOKEN begins so, or it can't stand there, or it is a blank", () -> {
            for (int b = 0; b < 256; b++) {
                PerhapsRows x = Houses.empty();
                x.feed(b << 24, 0, 0, 0, 0);
                int kind = kindOfByte(b);
                due("rules(1) of " + b, kind == 0 ? 0 : -10 - kind, x.rules(1));
                due("fault(1) of " + b, kind == 0 ? NONE : 0, x.fault(1));
            }
        });
        faulty("a capital letter", "mark Name;", 1, 5);
        faulty("a tab is no blank", "mark\t1;", 1, 4);
        faulty("13 is no blank", "mark 1;\r", 1, 7);
        faulty("6 digits, at their first", "mark 1+100000;", 1, 7);
        faulty("6 digits that are few in number", "world 000064;", 1, 6);
        faulty("7 digits", "tags 1234567;", 1, 5);
        faulty("6 digits where no number can stand: the least kind", "mark 1 123456;", 1, 7);
        faulty("6 digits where a number would be out of bounds: the least kind", "world 100000;", 1, 6);
        faulty("where nothing could stand: the least kind", "mark 1 $", 1, 7);
        about("promise 4, FAULT 2");
        faulty("a TEXT starts with no sign", ";", 2, 0);
        faulty("a word that is none of a line", "name;", 2, 0);
        faulty("a word that is longer than one", "marks 1;", 2, 0);
        faulty("a word that is shorter than one", "mar 1;", 2, 0);
        faulty("a word with another first letter", "zark 1;", 2, 0);
        faulty("a word with another last letter", "worls 9;", 2, 0);
        faulty("a word goes as long as it can", "markname;", 2, 0);
        faulty("a word ends at a capital letter, but comes ahead of it", "marK 1;", 2, 0);
        faulty("an operand that is another word", "mark nam;", 2, 5);
        faulty("a tag's operand that is a line's word", "tag tag;", 2, 4);
        faulty("the end behind a mark", "mark", 2, 4);
        faulty("the end behind world", "world", 2, 5);
        faulty("the end behind a number", "world 9", 2, 7);
        faulty("the end behind an operand", "mark name", 2, 9);
        faulty("the end behind an operator", "mark name+", 2, 10);
        faulty("the end behind a (", "mark (", 2, 6);
        faulty("the end inside a (", "mark (name", 2, 10);
        faulty("the end behind blanks is the text's length", "mark name \n ", 2, 12);
        faulty("the ; inside a (", "mark (name;", 2, 10);
        faulty("a ) without a (", "mark name);", 2, 9);
        faulty("a second ) for one (", "mark (name));", 2, 11);
        faulty("an empty (", "mark ();", 2, 6);
        faulty("an empty mark", "mark ;", 2, 5);
        faulty("an empty tag", "tag;", 2, 3);
        faulty("no sign ahead of an operand", "mark -1;", 2, 5);
        faulty("two operators", "mark 1+*2;", 2, 7);
        faulty("two operands", "mark name 2;", 2, 10);
        faulty("a ( behind an operand", "mark 2(3);", 2, 6);
        faulty("an operand behind a )", "mark (2)3;", 2, 8);
        faulty("a word behind 5 digits", "mark 12345name;", 2, 10);
        faulty("world without a number", "world;", 2, 5);
        faulty("world of an E", "world (9);", 2, 6);
        faulty("world of name", "world name;", 2, 6);
        faulty("tags of two numbers", "tags 9 9;", 2, 7);
        faulty("tags of a sum", "tags 9+9;", 2, 6);
        faulty("a line without its ;", "world 9 mark 1;", 2, 8);
        edge("the end of n bytes, though the tape has more", () -> {
            PerhapsRows x = Houses.empty();
            feedText(x, "mark 1;mark 2;");
            due("rules(6)", -12, x.rules(6));
            due("fault(1)", 6, x.fault(1));
        });
    }

    private static void faultsOfBounds() {
        about("promise 4, FAULT 3");
        faulty("world 0", "world 0;", 3, 6);
        faulty("world 1", "world 1;", 3, 6);
        faulty("world 257", "world 257;", 3, 6);
        faulty("world of 5 digits", "world 99999;", 3, 6);
        faulty("tags 0", "tags 0;", 3, 5);
        faulty("tags 1", "tags 1;", 3, 5);
        faulty("tags 65", "tags 65;", 3, 5);
        faulty("tags have not the bounds of world", "tags 256;", 3, 5);
        faulty("ahead of what follows", "world 1$", 3, 6);
        faulty("ahead of the end", "tags 65", 3, 5);
        faulty("in a later line", "mark 1;world 9;world 1;", 3, 21);
        edge("numbers of an E have no bounds", () -> {
            PerhapsRows x = told("mark 0;mark 1;mark 257;tag 65;");
            due("value(0,0,1)", 0, x.value(0, 0, 1));
            due("value(1,0,1)", 1, x.value(1, 0, 1));
            due("value(2,0,1)", 257, x.value(2, 0, 1));
            due("tag(0)", 1, x.tag(0));
        });
        about("promise 4, FAULT 4");
        faulty("the first TOKEN of a 7th mark", SIX_MARKS + " mark 1;", 4, 43);
        faulty("ahead of what follows", SIX_MARKS + "mark$", 4, 42);
        faulty("at the end", SIX_MARKS + "mark", 4, 42);
        faulty("a 7th mark where no line begins: the least kind", SIX_MARKS + "tag mark", 2, 46);
        about("promise 4, FAULT 5");
        faulty("the 7th ( of a mark", "mark (((((((1)))))));", 5, 11);
        faulty("the 7th ( of a tag", "tag (((((((1)))))));", 5, 10);
        faulty("the 7th ( behind others that are closed", "mark (1)+((((((1+(2", 5, 17);
        faulty("ahead of what follows", "mark ((((((($", 5, 11);
        faulty("a 7th ( where none can stand: the least kind", "mark ((((((1(", 2, 12);
        faulty("a ( behind 6 of which one is closed", "mark ((((((1)(", 2, 13);
    }

    private static void faultItself() {
        about("promise 4");
        edge("the first along the text", () -> {
            PerhapsRows x = Houses.empty();
            due("rules", -13, tell(x, "world 1;mark $;"));
            due("fault(1)", 6, x.fault(1));
            due("rules", -11, tell(x, "mark $;world 1;"));
            due("fault(1)", 5, x.fault(1));
        });
        edge("0 and NONE without: behind rules that are right", () -> {
            PerhapsRows x = Houses.full();
            x.rules(20);
            due("fault(0)", 0, x.fault(0));
            due("fault(1)", NONE, x.fault(1));
        });
        edge("of the latest rules() that threw nothing", () -> {
            PerhapsRows x = Houses.full();
            thrown("rules(99)", ARGUMENT, () -> x.rules(99));
            due("fault(0)", 1, x.fault(0));
            due("fault(1)", 7, x.fault(1));
        });
        for (int what : new int[] {2, -1, 3, MAX, MIN}) {
            edge("NONE for others: " + what, () -> stays(NONE, Houses::full, x -> x.fault(what)));
        }
    }

    // ------------------------------------------------------------ 5 to 7

    private static void valued(String expression, int name, int size, int want) {
        edge(expression + " of " + name + ", " + size, () -> {
            PerhapsRows x = told("mark " + expression + ";");
            due("value", want, x.value(0, name, size));
        });
    }

    private static void values() {
        about("promise 5, VALUE");
        valued("2+3*4", 0, 1, 14);
        valued("(2+3)*4", 0, 1, 20);
        valued("20-3-2+1", 0, 1, 16);
        valued("20-(3-2)", 0, 1, 19);
        valued("7/2*2", 0, 1, 6);
        valued("7*3%4*2", 0, 1, 2);
        valued("2+7%4-9/4*3", 0, 1, -1);
        valued("1+2*(3+4*(5+6*(7+8*(9+10*(name+12)))))", 11, 1, 1 + 2 * (3 + 4 * (5 + 6 * (7 + 8 * (9 + 10 * 23)))));
        valued("1+2*(3+4*(5+6*(7+8*(9+10*(11+12*(13+14*name))))))", 1, 1,
                1 + 2 * (3 + 4 * (5 + 6 * (7 + 8 * (9 + 10 * (11 + 12 * 27))))));
        valued("name", MIN, 1, MIN);
        valued("name", MAX, 1, MAX);
        valued("name", 1000, 1, 1000);
        valued("size", 0, 1, 1);
        valued("size", 0, 128, 128);
        about("promise 5, numbers of 32 bits that wrap");
        valued("name+1", MAX, 1, MIN);
        valued("name-1", MIN, 1, MAX);
        valued("0-name", MIN, 1, MIN);
        valued("name*name", 46341, 1, -2147479015);
        valued("99999*99999", 0, 1, 1409865409);
        valued("65536*65536", 0, 1, 0);
        valued("name/(0-1)", MIN, 1, MIN);
        about("promise 5, / and % cut towards 0");
        valued("(0-7)/2", 0, 1, -3);
        valued("7/(0-2)", 0, 1, -3);
        valued("(0-7)/(0-2)", 0, 1, 3);
        valued("(0-7)%2", 0, 1, -1);
        valued("7%(0-2)", 0, 1, 1);
        valued("(0-6)%2", 0, 1, 0);
        valued("name%(0-1)", MIN, 1, 0);
        about("promise 5, by 0 they are 0");
        valued("name/0", 9, 1, 0);
        valued("name%0", 9, 1, 0);
        valued("0/0+0%0", 0, 1, 0);
        valued("5+name/(size-8)*3+2", 9, 8, 7);
        valued("5+name%(size-8)*3+2", 9, 8, 7);
        valueRefused();
    }

    private static void valueRefused() {
        about("promise 5");
        edge("no such MARK: -1", () -> refused(NO_SUCH, x -> x.value(-1, 0, 8)));
        edge("no such MARK: one above", () -> refused(NO_SUCH, x -> x.value(4, 0, 8)));
        edge("no such MARK: far below and above", () -> {
            refused(NO_SUCH, x -> x.value(MIN, 0, 8));
            refused(NO_SUCH, x -> x.value(MAX, 0, 8));
        });
        edge("no such MARK: there are none", () -> refused(NO_SUCH, Houses::empty, x -> x.value(0, 0, 8)));
        edge("no such MARK: 6 of 6", () -> refused(NO_SUCH, () -> told(SIX_MARKS), x -> x.value(6, 0, 8)));
        edge("the last MARK", () -> due("value(3,5,8)", 15, Houses.full().value(3, 5, 8)));
        edge("the size 0", () -> refused(ARGUMENT, x -> x.value(0, 0, 0)));
        edge("the size 129", () -> refused(ARGUMENT, x -> x.value(0, 0, 129)));
        edge("a size far below and above", () -> {
            refused(ARGUMENT, x -> x.value(0, 0, MIN));
            refused(ARGUMENT, x -> x.value(0, 0, MAX));
        });
        edge("a MARK comes ahead of a size", () -> refused(NO_SUCH, x -> x.value(4, 0, 0)));
        edge("any int as name, though no such name is in the WORLD", () -> {
            due("value(0,16,8)", 16, Houses.full().value(0, 16, 8));
            due("value(1,-1,8)", 0, Houses.full().value(1, -1, 8));
            due("value(1,-4,8)", -1, Houses.full().value(1, -4, 8));
            due("value(3,min,8)", MIN, Houses.full().value(3, MIN, 8));
        });
    }

    private static void placed(String sentence, int mark, int name, int size, int want) {
        edge(sentence + ": " + mark + " of " + name + ", " + size, () -> {
            due("place", want, Houses.full().place(mark, name, size));
        });
    }

    private static void places() {
        about("promise 6");
        placed("modulo the size", 0, 7, 8, 7);
        placed("modulo the size", 0, 8, 8, 0);
        placed("modulo the size", 0, 17, 8, 1);
        placed("the size itself is 0", 2, 0, 8, 0);
        placed("below 0 the size is added", 0, -1, 8, 7);
        placed("below 0 the size is added", 0, -7, 8, 1);
        placed("below 0, but its rest is 0", 0, -8, 8, 0);
        placed("below 0, with the size in it", 2, 15, 8, 1);
        placed("the size 1", 0, 77, 1, 0);
        placed("the size 128", 0, 127, 128, 127);
        placed("the size 128", 0, 128, 128, 0);
        placed("the least int", 0, MIN, 3, 1);
        placed("the least int", 0, MIN, 128, 0);
        placed("the greatest int", 0, MAX, 128, 127);
        placed("a VALUE that wraps", 3, MAX, 8, 5);
        placed("any int as name: WORLD", 3, 16, 7, 6);
        placed("any int as name: -1", 3, -1, 7, 4);
        edge("a MARK 0 that is size and no more, or starts with it", () -> {
            PerhapsRows x = told("mark size/2;mark size;mark name;");
            due("place(0,3,8)", 4, x.place(0, 3, 8));
            due("place(0,3,9)", 4, x.place(0, 3, 9));
            due("place(1,3,9)", 0, x.place(1, 3, 9));
            due("place(2,3,9)", 3, x.place(2, 3, 9));
        });
        edge("no such MARK: -1", () -> refused(NO_SUCH, x -> x.place(-1, 0, 8)));
        edge("no such MARK: one above", () -> refused(NO_SUCH, x -> x.place(4, 0, 8)));
        edge("no such MARK: there are none", () -> refused(NO_SUCH, Houses::empty, x -> x.place(0, 0, 8)));
        edge("the size 0", () -> refused(ARGUMENT, x -> x.place(0, 0, 0)));
        edge("the size -1", () -> refused(ARGUMENT, x -> x.place(0, 0, -1)));
        edge("the size 129", () -> refused(ARGUMENT, x -> x.place(0, 0, 129)));
        edge("a MARK comes ahead of a size", () -> refused(NO_SUCH, x -> x.place(-1, 0, 129)));
    }

    private static void tagged(String sentence, String text, int name, int want) {
        edge(sentence + ": " + name + " by " + text, () -> due("tag", want, told(text).tag(name)));
    }

    private static void tags() {
        about("promise 7");
        tagged("modulo TAGS", "tags 5;tag name*2;", 2, 4);
        tagged("modulo TAGS", "tags 5;tag name*2;", 3, 1);
        tagged("below 0 TAGS is added", "tags 5;tag 0-name;", 1, 4);
        tagged("below 0, but its rest is 0", "tags 5;tag 0-name;", 10, 0);
        tagged("size in a tag is TAGS", "tags 9;tag size/2;", 0, 4);
        tagged("size in a tag is TAGS that is told later", "tag size/2;tags 60;", 0, 30);
        tagged("size in a tag is TAGS without tags", "tag size/2;", 0, 8);
        tagged("by 0 it is 0", "tag 7/name;", 0, 0);
        tagged("a VALUE that wraps", "tags 64;tag 99999*99999;", 0, 1);
        tagged("the least TAGS", "tags 2;", 63, 1);
        tagged("the last name of the largest WORLD", "world 256;tags 64;", 255, 63);
        edge("no such name: -1", () -> refused(ARGUMENT, x -> x.tag(-1)));
        edge("no such name: WORLD", () -> refused(ARGUMENT, x -> x.tag(16)));
        edge("no such name: far below and above", () -> {
            refused(ARGUMENT, x -> x.tag(MIN));
            refused(ARGUMENT, x -> x.tag(MAX));
        });
        edge("no such name: 256 in the largest WORLD", () -> refused(ARGUMENT, () -> told("world 256;"), x -> x.tag(256)));
        edge("the first and the last name", () -> {
            due("tag(0)", 0, Houses.full().tag(0));
            due("tag(15)", 7, Houses.full().tag(15));
        });
    }

    public static void main(String[] args) {
        aNewObject();
        feeding();
        rulesAreRead();
        theRules();
        faultsOfTokens();
        faultsOfBounds();
        faultItself();
        values();
        places();
        tags();
        report("the edges of the rules");
    }
}
