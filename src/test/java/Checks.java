import java.util.Arrays;
import java.util.HashSet;
import java.util.NoSuchElementException;
import java.util.Set;

/** What the hand-worked tests share: counted checks, and short ways to tell rules, to put, to fill a tray. */
class Checks {
    static final int NONE = PerhapsRows.NONE;
    static final Class<?> NO_SUCH = NoSuchElementException.class;
    static final Class<?> STATE = IllegalStateException.class;
    static final Class<?> ARGUMENT = IllegalArgumentException.class;
    static final Class<?> INDEX = IndexOutOfBoundsException.class;
    static final int MIN = Integer.MIN_VALUE;
    static final int MAX = Integer.MAX_VALUE;
    static final long TWO_TO_32 = 1L << 32;
    static final String[] KINDS = {"BITS", "COUNTS", "NESTS", "LAYERS", "SOLVED"};
    /** There are four ROWS, and four TRAYS. */
    static final int[] NONE_OF_FOUR = {-1, 4, MIN, MAX};

    /** Name n has places n and n/4, and the tag n/2: in 8 places 0: 0; 1: 1 0; 5: 5 1; 8: 0 2; 9: 1 2; 10: 2. */
    static final String PLAIN = "world 16;tags 8;mark name;mark name/4;tag name/2;";

    private static int checks = 0;
    private static int wrong = 0;
    private static String topic = "";
    private static final Set<String> EDGES = new HashSet<>();

    interface Call {
        void make();
    }

    interface Deed {
        void on(PerhapsRows x);
    }

    interface Asking {
        Object of(PerhapsRows x);
    }

    interface OnIndex {
        void of(PerhapsRows x, int index);
    }

    /** Makes an object in a state of its own: the same one each time. */
    interface House {
        PerhapsRows build();
    }

    static void about(String newTopic) {
        topic = newTopic;
    }

    /** One sentence that names a boundary, and what it asks for; no two have the same name. */
    static void edge(String sentence, Call body) {
        String promise = topic;
        topic = promise + ": " + sentence;
        due("a name of its own", true, EDGES.add(topic));
        try {
            body.make();
        } catch (RuntimeException e) {
            due("the test itself", "no throw", e);
        }
        topic = promise;
    }

    static void due(String told, Object want, Object got) {
        checks++;
        if (!String.valueOf(want).equals(String.valueOf(got))) {
            wrong++;
            System.out.println(topic + ": " + told + " answered " + got + ", due is " + want);
        }
    }

    /** The class must be the very one: ArrayIndexOutOfBoundsException would be the machine's. */
    static void thrown(String told, Class<?> want, Call call) {
        Class<?> got = null;
        try {
            call.make();
        } catch (RuntimeException e) {
            got = e.getClass();
        }
        due(told, want, got);
    }

    /** The call throws just that, and nothing that can be seen is changed by it. */
    static void refused(Class<?> want, House house, Deed deed) {
        thrown("the refused call", want, () -> deed.on(house.build()));
        unchanged(house, deed, Look.ALL);
    }

    static void refused(Class<?> want, Deed deed) {
        refused(want, Houses::full, deed);
    }

    /** Edges of a call with a row that can't be, or isn't there. */
    static void noRow(OnIndex call) {
        for (int row : NONE_OF_FOUR) {
            edge("no such ROW: " + row, () -> refused(NO_SUCH, x -> call.of(x, row)));
        }
        edge("the ROW isn't there", () -> refused(NO_SUCH, Houses::brim, x -> call.of(x, 3)));
        edge("no ROW is there", () -> refused(NO_SUCH, Houses::empty, x -> call.of(x, 0)));
    }

    /** The call answers that, and nothing that can be seen is changed by it. */
    static void stays(Object want, House house, Asking asking) {
        due("the call that changes nothing", want, asking.of(house.build()));
        unchanged(house, x -> asking.of(x), Look.ALL);
    }

    /** These parts are as they would be without the deed. */
    static void unchanged(House house, Deed deed, int... parts) {
        for (int part : parts) {
            String before = Look.at(house.build(), part);
            PerhapsRows x = house.build();
            try {
                deed.on(x);
            } catch (RuntimeException e) {
                // whether it throws is another check's question
            }
            String after = Look.at(x, part);
            int unlike = Arrays.mismatch(before.toCharArray(), after.toCharArray());
            due("what is seen of part " + part, around(before, unlike), around(after, unlike));
        }
    }

    private static String around(String seen, int at) {
        return seen.substring(Math.max(at - 60, 0), Math.max(Math.min(at + 60, seen.length()), 0));
    }

    static void feedText(PerhapsRows x, String text) {
        for (int at = 0; at < text.length(); at += 20) {
            int[] v = new int[5];
            for (int i = 0; i < 20; i++) {
                v[i / 4] = v[i / 4] << 8 | (at + i < text.length() ? text.charAt(at + i) : ' ');
            }
            x.feed(v[0], v[1], v[2], v[3], v[4]);
        }
    }

    static int tell(PerhapsRows x, String text) {
        feedText(x, text);
        return x.rules(text.length());
    }

    static PerhapsRows told(String text) {
        PerhapsRows x = new PerhapsRows();
        int lines = tell(x, text);
        if (lines < 0) {
            due("rules of " + text, "lines", lines);
        }
        return x;
    }

    static void putAll(PerhapsRows x, int row, int... names) {
        for (int name : names) {
            due("put(" + row + "," + name + ")", 0, x.put(row, name));
        }
    }

    static void fill(PerhapsRows x, int tray, long... numbers) {
        x.tray(tray, 3, numbers.length);
        for (int i = 0; i < numbers.length; i++) {
            x.write(tray, i, numbers[i]);
        }
    }

    static void cells(PerhapsRows x, int row, int... want) {
        for (int i = 0; i < want.length; i++) {
            due("cell(" + row + "," + i + ")", want[i], x.cell(row, i));
        }
        thrown("cell(" + row + "," + want.length + ")", INDEX, () -> x.cell(row, want.length));
        thrown("cell(" + row + ",-1)", INDEX, () -> x.cell(row, -1));
    }

    /** Tells how it went, and ends with exit code 1 if something was wrong. */
    static void report(String what) {
        String edges = EDGES.isEmpty() ? "" : EDGES.size() + " edges, ";
        System.out.println(what + ": " + edges + checks + " checks, " + wrong + " wrong");
        if (wrong != 0) {
            System.exit(1);
        }
    }
}
