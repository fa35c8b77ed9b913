import java.util.Arrays;
import java.util.NoSuchElementException;

/**
 * Rows in which names are put by several marks: yes means perhaps.
 * The words in capitals in the comments are those of the document.
 */
public final class PerhapsRows {
    /** There is none. */
    public static final int NONE = -1;

    private static final int TAPE_BYTES = 600;
    private static final int BYTES_FED = 20;
    private static final int MANY_ROWS = 4;
    private static final int MANY_TRAYS = 4;
    private static final int MANY_IMAGES = 3;
    private static final int TRAY_PLACES = 40;
    private static final int MOST_NAMES = 256;
    private static final int MOST_TAGS = 64;
    private static final int MOST_MARKS = 6;
    private static final int MOST_BITS = 64;
    private static final int MOST_VALUE_SIZE = 128;
    private static final int MOST_NESTS = 16;
    private static final int MOST_SLOTS = 4;
    private static final int MOST_LAYERS = 4;
    private static final int MOST_FIRST_LAYER = 16;
    private static final int MOST_PUTS = 20;
    private static final int MOST_MONEY = 999;
    private static final int FULL_COUNT = 15;

    private static final int BITS = 0;
    private static final int COUNTS = 1;
    private static final int NESTS = 2;
    private static final int LAYERS = 3;
    private static final int SOLVED = 4;

    private int faultKind;
    private int faultPlace;
    private int upperNumber;
    private int lowerNumber;
    private final Shelf now;
    private final Shelf[] images;
    private int imagesMade;
    private final Tray[] trays;
    private final Reader reader;
    private final Pusher pusher;
    private final Solver solver;
    private final Judge judge;
    private final Levels levels;

    public PerhapsRows() {
        faultPlace = NONE;
        now = new Shelf();
        now.rules.clear();
        now.rules.fillTables();
        images = new Shelf[MANY_IMAGES];
        for (int i = 0; i < MANY_IMAGES; i++) {
            images[i] = new Shelf();
        }
        trays = new Tray[MANY_TRAYS];
        for (int i = 0; i < MANY_TRAYS; i++) {
            trays[i] = new Tray();
        }
        reader = new Reader();
        pusher = new Pusher();
        solver = new Solver();
        judge = new Judge();
        levels = new Levels();
    }

    // ---- the rules

    public int feed(int a, int b, int c, int d, int e) {
        if (reader.taped + BYTES_FED > TAPE_BYTES) {
            return NONE;
        }
        reader.append(a);
        reader.append(b);
        reader.append(c);
        reader.append(d);
        reader.append(e);
        return reader.taped;
    }

    public int rules(int n) throws IllegalArgumentException {
        if (n < 0 || n > reader.taped) {
            throw new IllegalArgumentException("the tape has not so many bytes");
        }
        boolean understood = reader.readAll(n);
        reader.taped = 0;
        faultKind = reader.fault;
        faultPlace = reader.faultPlace;
        if (!understood) {
            return -10 - faultKind;
        }
        now.rules.copyFrom(reader.draft);
        now.removeRows();
        return now.rules.lines;
    }

    public int fault(int what) {
        switch (what) {
            case 0:
                return faultKind;
            case 1:
                return faultPlace;
            default:
                return NONE;
        }
    }

    public int value(int mark, int name, int size) throws NoSuchElementException, IllegalArgumentException {
        needMarkAndSize(mark, size);
        return now.rules.valueOf(mark, name, size);
    }

    public int place(int mark, int name, int size) throws NoSuchElementException, IllegalArgumentException {
        needMarkAndSize(mark, size);
        return now.rules.placeOf(mark, name, size);
    }

    private void needMarkAndSize(int mark, int size) {
        if (mark < 0 || mark >= now.rules.marks) {
            throw new NoSuchElementException("no such mark");
        }
        if (size < 1 || size > MOST_VALUE_SIZE) {
            throw new IllegalArgumentException("the size is not 1 to 128");
        }
    }

    public int tag(int name) throws IllegalArgumentException {
        needName(name);
        return now.rules.tagOf(name);
    }

    // ---- rows

    public void make(int row, int kind, int size, int marks, int extra)
            throws NoSuchElementException, IllegalArgumentException {
        if (row < 0 || row >= MANY_ROWS) {
            throw new NoSuchElementException("no such row");
        }
        if (!canBe(kind, size, marks) || !extraFits(kind, extra)) {
            throw new IllegalArgumentException("no row can be so");
        }
        now.rows[row].begin(kind, size, marks, extra);
    }

    private boolean canBe(int kind, int size, int marks) {
        if (kind < BITS || kind > SOLVED) {
            return false;
        }
        int mostSize = kind == NESTS ? MOST_NESTS : kind == LAYERS ? MOST_FIRST_LAYER : MOST_BITS;
        if (size < 1 || size > mostSize || marks < 1 || marks > now.rules.marks) {
            return false;
        }
        return kind == NESTS ? marks == 2 : kind != SOLVED || marks <= 3;
    }

    private static boolean extraFits(int kind, int extra) {
        switch (kind) {
            case NESTS:
                return extra >= 1 && extra <= MOST_SLOTS;
            case LAYERS:
                return extra >= 1 && extra <= MOST_PUTS;
            default:
                return extra == 0;
        }
    }

    public int of(int row, int what) throws NoSuchElementException, IllegalArgumentException {
        Row asked = rowAt(row);
        switch (what) {
            case 0:
                return asked.kind;
            case 1:
                return asked.size;
            case 2:
                return asked.marks;
            case 3:
                return asked.extra;
            case 4:
                return asked.within.many();
            case 5:
                return asked.layers;
            case 6:
                return asked.pushes;
            default:
                throw new IllegalArgumentException("a row has no such number");
        }
    }

    public int cell(int row, int place) throws NoSuchElementException, IndexOutOfBoundsException {
        Row asked = rowAt(row);
        if (place < 0 || place >= asked.places()) {
            throw new IndexOutOfBoundsException("no such place");
        }
        return asked.kind == NESTS ? asked.guestsIn(place) : asked.cellAt(place);
    }

    public int guest(int row, int nest, int slot)
            throws NoSuchElementException, IllegalStateException, IndexOutOfBoundsException {
        Row asked = rowAt(row);
        needKind(asked, NESTS);
        if (nest < 0 || nest >= asked.size || slot < 0 || slot >= asked.extra) {
            throw new IndexOutOfBoundsException("no such nest or slot");
        }
        return asked.guestAt(nest, slot);
    }

    public boolean yes(int row, int name) throws NoSuchElementException, IllegalArgumentException {
        Row asked = rowAt(row);
        needName(name);
        return asked.says(now.rules, name);
    }

    public boolean isPut(int row, int name) throws NoSuchElementException, IllegalArgumentException {
        Row asked = rowAt(row);
        needName(name);
        return asked.within.has(name);
    }

    public int put(int row, int name)
            throws NoSuchElementException, IllegalStateException, IllegalArgumentException {
        Row taking = rowAt(row);
        needUnsolved(taking);
        needName(name);
        return admit(taking, name);
    }

    /** 0 if the name was put, 1 if it was there already, NONE if it can't be. */
    private int admit(Row taking, int name) {
        if (taking.within.has(name)) {
            return 1;
        }
        boolean settled = taking.kind == NESTS
                ? pusher.settle(taking, now.rules, name)
                : taking.mark(now.rules, name);
        if (!settled) {
            return NONE;
        }
        taking.within.add(name);
        return 0;
    }

    public boolean take(int row, int name)
            throws NoSuchElementException, IllegalStateException, IllegalArgumentException {
        Row losing = rowAt(row);
        if (losing.kind != COUNTS && losing.kind != NESTS) {
            throw new IllegalStateException("nobody is taken out of such a row");
        }
        needName(name);
        if (!losing.within.has(name)) {
            return false;
        }
        if (losing.kind == NESTS) {
            losing.freeGuest(name);
        } else {
            losing.unmark(now.rules, name);
        }
        losing.within.remove(name);
        return true;
    }

    public int join(int row, int other)
            throws NoSuchElementException, IllegalStateException, IllegalArgumentException {
        Row first = rowAt(row);
        Row second = rowAt(other);
        boolean alike = first.kind == second.kind && first.size == second.size && first.marks == second.marks;
        if (!alike || !first.isPlain()) {
            throw new IllegalStateException("these rows can't be joined");
        }
        if (row == other) {
            throw new IllegalArgumentException("both rows are one");
        }
        first.absorb(second);
        return first.within.many();
    }

    public int halve(int row) throws NoSuchElementException, IllegalStateException {
        Row folded = rowAt(row);
        if (!folded.isPlain() || folded.size % 2 != 0) {
            throw new IllegalStateException("this row can't be halved");
        }
        folded.fold();
        return folded.size;
    }

    public int grow(int row) throws NoSuchElementException, IllegalStateException {
        Row growing = rowAt(row);
        needKind(growing, NESTS);
        if (growing.size > MOST_NESTS / 2) {
            throw new IllegalStateException("there are more than 8 nests");
        }
        return pusher.enlarge(growing, now.rules) ? growing.size : NONE;
    }

    public int solve(int row, int tray)
            throws NoSuchElementException, IllegalStateException, IllegalArgumentException {
        Row target = rowAt(row);
        Tray names = trayAt(tray);
        needKind(target, SOLVED);
        needFilled(names);
        needNames(names);
        if (names.hasTwoAlike()) {
            throw new IllegalArgumentException("two names are alike");
        }
        return solver.solveFor(target, now.rules, names) ? names.many : NONE;
    }

    // ---- lies

    public boolean lying(int row) throws NoSuchElementException {
        Row asked = rowAt(row);
        int lies = countLies(asked);
        int outside = now.rules.world - asked.within.many();
        int common = commonDivisor(lies, outside);
        upperNumber = common == 0 ? 0 : lies / common;
        lowerNumber = common == 0 ? 0 : outside / common;
        return outside != 0;
    }

    private static int commonDivisor(int a, int b) {
        int larger = a;
        int smaller = b;
        for (int i = 0; i < MOST_NAMES && smaller != 0; i++) {
            int rest = larger % smaller;
            larger = smaller;
            smaller = rest;
        }
        return larger;
    }

    private boolean isLie(Row asked, int name) {
        return !asked.within.has(name) && asked.says(now.rules, name);
    }

    private int countLies(Row asked) {
        int lies = 0;
        for (int name = 0; name < now.rules.world; name++) {
            if (!asked.within.has(name) && asked.says(now.rules, name)) {
                lies++;
            }
        }
        return lies;
    }

    public int upper() {
        return upperNumber;
    }

    public int lower() {
        return lowerNumber;
    }

    public int lie(int row, int k) throws NoSuchElementException {
        Row asked = rowAt(row);
        int seen = 0;
        for (int name = 0; name < now.rules.world && seen <= k; name++) {
            if (isLie(asked, name)) {
                if (seen == k) {
                    return name;
                }
                seen++;
            }
        }
        return NONE;
    }

    public int wronged(int row, int tray, int k) throws NoSuchElementException, IllegalStateException {
        Row asked = rowAt(row);
        Tray names = trayAt(tray);
        needFilled(names);
        int seen = 0;
        for (int i = 0; i < names.many; i++) {
            if (isName(names.numberAt(i)) && isLie(asked, (int) names.numberAt(i))) {
                if (seen == k) {
                    return (int) names.numberAt(i);
                }
                seen++;
            }
        }
        return k == NONE ? seen : NONE;
    }

    public int worse(int row, int other) throws NoSuchElementException {
        Row first = rowAt(row);
        Row second = rowAt(other);
        return countLies(first) - countLies(second);
    }

    public int cascade(int row, int list, int sizes, int what)
            throws NoSuchElementException, IllegalStateException, IllegalArgumentException {
        Row first = rowAt(row);
        Tray names = trayAt(list);
        Tray widths = trayAt(sizes);
        needKind(first, BITS);
        needFilled(names);
        needFilled(widths);
        needWhat(what, 2);
        needNames(names);
        if (!widths.allWithin(1, MOST_BITS)) {
            throw new IllegalArgumentException("a size is not 1 to 64");
        }
        if (!levels.build(first, now.rules, names, widths)) {
            return NONE;
        }
        return what == 0 ? levels.built : what == 1 ? levels.took : levels.width;
    }

    // ---- who asks

    public int learn(int row, int tray, int what)
            throws NoSuchElementException, IllegalStateException, IllegalArgumentException {
        Row asked = rowAt(row);
        Tray names = trayAt(tray);
        needKind(asked, BITS);
        needFilled(names);
        needWhat(what, 2);
        needNames(names);
        judge.hear(asked, now.rules, names);
        return what == 0 ? judge.knownPlaces() : judge.knownNames(what == 2);
    }

    public int ask(int row, int tray)
            throws NoSuchElementException, IllegalStateException, IllegalArgumentException {
        Row asked = rowAt(row);
        Tray names = trayAt(tray);
        needKind(asked, BITS);
        needFilled(names);
        needNames(names);
        judge.hear(asked, now.rules, names);
        return judge.bestQuestion();
    }

    public int worst(int row, int what)
            throws NoSuchElementException, IllegalStateException, IllegalArgumentException {
        Row asked = rowAt(row);
        needKind(asked, BITS);
        needWhat(what, 1);
        if (!judge.findWorst(asked, now.rules)) {
            return NONE;
        }
        return what == 0 ? judge.foundName : judge.foundLies;
    }

    public int blame(int row, int name)
            throws NoSuchElementException, IllegalStateException, IllegalArgumentException {
        Row asked = rowAt(row);
        needKind(asked, BITS);
        needName(name);
        return judge.fewestHolding(asked, now.rules, name);
    }

    public int choose(int row, int money, int what) throws NoSuchElementException, IllegalArgumentException {
        Row asked = rowAt(row);
        if (money < 0 || money > MOST_MONEY) {
            throw new IllegalArgumentException("money is not 0 to 999");
        }
        needWhat(what, 2);
        if (!judge.findChosen(asked, now.rules, money)) {
            return NONE;
        }
        return what == 0 ? judge.foundSize : what == 1 ? judge.foundMarks : judge.foundLies;
    }

    // ---- trays, images

    public void tray(int tray, int sort, int many) throws NoSuchElementException, IllegalArgumentException {
        Tray made = trayAt(tray);
        if (sort < 0 || sort > 3 || many < 0 || many > TRAY_PLACES) {
            throw new IllegalArgumentException("no tray can be so");
        }
        made.begin(sort, many);
    }

    public long write(int tray, int place, long v)
            throws NoSuchElementException, IllegalStateException, IndexOutOfBoundsException {
        Tray written = trayAt(tray);
        needFilled(written);
        if (place < 0 || place >= written.many) {
            throw new IndexOutOfBoundsException("the tray has no such place");
        }
        return written.keep(place, v);
    }

    public int pour(int row, int tray) throws NoSuchElementException, IllegalStateException {
        Row taking = rowAt(row);
        Tray names = trayAt(tray);
        needUnsolved(taking);
        needFilled(names);
        int poured = 0;
        for (int i = 0; i < names.many; i++) {
            long number = names.numberAt(i);
            if (!isName(number) || admit(taking, (int) number) == NONE) {
                return poured;
            }
            poured++;
        }
        return poured;
    }

    public void image(int i) throws NoSuchElementException {
        imageAt(i).copyFrom(now);
        imagesMade |= 1 << i;
    }

    public void restore(int i) throws NoSuchElementException, IllegalStateException {
        Shelf made = imageAt(i);
        if ((imagesMade >> i & 1) == 0) {
            throw new IllegalStateException("no such image was made");
        }
        now.copyFrom(made);
    }

    public int count(int what) {
        switch (what) {
            case 0:
                return now.rules.lines;
            case 1:
                return now.rules.world;
            case 2:
                return now.rules.tags;
            case 3:
                return now.rules.marks;
            case 4:
                return now.rowsThere();
            case 5:
                return reader.taped;
            default:
                return NONE;
        }
    }

    // ---- what the calls ask for

    private Row rowAt(int row) {
        if (row < 0 || row >= MANY_ROWS || !now.rows[row].there) {
            throw new NoSuchElementException("no such row is there");
        }
        return now.rows[row];
    }

    private Tray trayAt(int tray) {
        if (tray < 0 || tray >= MANY_TRAYS) {
            throw new NoSuchElementException("no such tray");
        }
        return trays[tray];
    }

    private Shelf imageAt(int i) {
        if (i < 0 || i >= MANY_IMAGES) {
            throw new NoSuchElementException("no such image");
        }
        return images[i];
    }

    private static void needKind(Row asked, int kind) {
        if (asked.kind != kind) {
            throw new IllegalStateException("the row is of another kind");
        }
    }

    private static void needUnsolved(Row asked) {
        if (asked.kind == SOLVED) {
            throw new IllegalStateException("the row is solved");
        }
    }

    private static void needFilled(Tray asked) {
        if (!asked.there) {
            throw new IllegalStateException("the tray is missing");
        }
    }

    private static void needWhat(int what, int last) {
        if (what < 0 || what > last) {
            throw new IllegalArgumentException("no such what");
        }
    }

    private boolean isName(long number) {
        return number >= 0 && number < now.rules.world;
    }

    private void needName(long number) {
        if (!isName(number)) {
            throw new IllegalArgumentException("no such name");
        }
    }

    private void needNames(Tray names) {
        for (int i = 0; i < names.many; i++) {
            needName(names.numberAt(i));
        }
    }

    /** The value modulo a size, 0 at least. */
    private static int modulo(int value, int size) {
        if (size < 1) {
            return 0;
        }
        int rest = value % size;
        return rest < 0 ? rest + size : rest;
    }

    /** A set of names. */
    private static final class Names {
        private final long[] words = new long[MOST_NAMES / 64];

        boolean has(int name) {
            return name >= 0 && name < MOST_NAMES && (words[name >> 6] >>> (name & 63) & 1L) != 0;
        }

        void add(int name) {
            if (name >= 0 && name < MOST_NAMES) {
                words[name >> 6] |= 1L << (name & 63);
            }
        }

        void remove(int name) {
            if (name >= 0 && name < MOST_NAMES) {
                words[name >> 6] &= ~(1L << (name & 63));
            }
        }

        void clear() {
            Arrays.fill(words, 0L);
        }

        int many() {
            int many = 0;
            for (int i = 0; i < words.length; i++) {
                many += Long.bitCount(words[i]);
            }
            return many;
        }

        void addAll(Names other) {
            for (int i = 0; i < words.length; i++) {
                words[i] |= other.words[i];
            }
        }

        void copyFrom(Names other) {
            System.arraycopy(other.words, 0, words, 0, words.length);
        }
    }

    /** THE RULES: the expressions are kept operands first, a number of 0 and more being itself. */
    private static final class Rules {
        static final int NAME = -1;
        static final int SIZE = -2;
        static final int ADD = -3;
        static final int SUBTRACT = -4;
        static final int MULTIPLY = -5;
        static final int DIVIDE = -6;
        static final int REST = -7;

        private static final int WORLD_AT_FIRST = 64;
        private static final int TAGS_AT_FIRST = 16;
        // two operands wait at most around each of the 6 ( that may be open, and outside of them
        private static final int STACK = 16;

        int lines;
        int world;
        int tags;
        int marks;
        private int length;
        private int tagStart;
        private int tagEnd;
        private int sizedMarks;
        private final int[] code = new int[TAPE_BYTES];
        private final int[] starts = new int[MOST_MARKS];
        private final int[] ends = new int[MOST_MARKS];
        private final int[] tagTable = new int[MOST_NAMES];
        private final int[] valueTable = new int[MOST_MARKS * MOST_NAMES];
        private final int[] stack = new int[STACK];

        void clear() {
            lines = 0;
            world = WORLD_AT_FIRST;
            tags = TAGS_AT_FIRST;
            marks = 0;
            length = 0;
            tagStart = 0;
            tagEnd = 0;
            sizedMarks = 0;
        }

        void emit(int step) {
            if (length < code.length) {
                code[length] = step;
                length++;
            }
        }

        int emitted() {
            return length;
        }

        /** What was emitted since start is the next mark. */
        void addMark(int start) {
            if (marks >= MOST_MARKS) {
                return;
            }
            starts[marks] = start;
            ends[marks] = length;
            for (int i = Math.max(start, 0); i < length; i++) {
                sizedMarks |= code[i] == SIZE ? 1 << marks : 0;
            }
            marks++;
        }

        /** What was emitted since start is the tag. */
        void setTag(int start) {
            tagStart = start;
            tagEnd = length;
        }

        /** Tags, and values of marks without size, are asked for far more often than rules change. */
        void fillTables() {
            for (int name = 0; name < world && name < MOST_NAMES; name++) {
                int value = tagStart == tagEnd ? name : compute(tagStart, tagEnd, name, tags);
                tagTable[name] = modulo(value, tags);
                for (int mark = 0; mark < marks && mark < MOST_MARKS; mark++) {
                    if ((sizedMarks >> mark & 1) == 0) {
                        valueTable[mark * MOST_NAMES + name] = compute(starts[mark], ends[mark], name, 0);
                    }
                }
            }
        }

        int tagOf(int name) {
            return name >= 0 && name < MOST_NAMES ? tagTable[name] : 0;
        }

        int valueOf(int mark, int name, int size) {
            return mark >= 0 && mark < marks ? compute(starts[mark], ends[mark], name, size) : 0;
        }

        int placeOf(int mark, int name, int size) {
            if (mark < 0 || mark >= marks || mark >= MOST_MARKS) {
                return 0;
            }
            boolean kept = (sizedMarks >> mark & 1) == 0 && name >= 0 && name < world && name < MOST_NAMES;
            int value = kept ? valueTable[mark * MOST_NAMES + name] : compute(starts[mark], ends[mark], name, size);
            return modulo(value, size);
        }

        /** The places of a name in bits of a size of 64 at most, one bit each. */
        long placesOf(int name, int size, int manyMarks) {
            long places = 0;
            for (int mark = 0; mark < manyMarks; mark++) {
                places |= 1L << placeOf(mark, name, size);
            }
            return places;
        }

        private int compute(int start, int end, int name, int size) {
            int top = 0;
            for (int i = start; i < end && i < code.length; i++) {
                int step = code[i];
                if (step > ADD && top < STACK) {
                    stack[top] = step == NAME ? name : step == SIZE ? size : step;
                    top++;
                } else if (step <= ADD && top >= 2) {
                    top--;
                    int left = stack[top - 1];
                    int right = stack[top];
                    switch (step) {
                        case ADD:
                            left += right;
                            break;
                        case SUBTRACT:
                            left -= right;
                            break;
                        case MULTIPLY:
                            left *= right;
                            break;
                        case DIVIDE:
                            left = right == 0 ? 0 : left / right;
                            break;
                        default:
                            left = right == 0 ? 0 : left % right;
                            break;
                    }
                    stack[top - 1] = left;
                }
            }
            return stack[0];
        }

        void copyFrom(Rules other) {
            lines = other.lines;
            world = other.world;
            tags = other.tags;
            marks = other.marks;
            length = other.length;
            tagStart = other.tagStart;
            tagEnd = other.tagEnd;
            sizedMarks = other.sizedMarks;
            System.arraycopy(other.code, 0, code, 0, code.length);
            System.arraycopy(other.starts, 0, starts, 0, starts.length);
            System.arraycopy(other.ends, 0, ends, 0, ends.length);
            System.arraycopy(other.tagTable, 0, tagTable, 0, tagTable.length);
            System.arraycopy(other.valueTable, 0, valueTable, 0, valueTable.length);
        }
    }

    /** Holds the tape, and reads a TEXT from it into a draft of THE RULES, up to its first FAULT. */
    private static final class Reader {
        private static final int END = 0;
        private static final int BAD = 1;
        private static final int NUMBER = 2;
        private static final int WORLD = 3;
        private static final int TAGS = 4;
        private static final int MARK = 5;
        private static final int TAG = 6;
        private static final int NAME = 7;
        private static final int SIZE = 8;
        private static final int OTHER_WORD = 9;
        // a sign's token is its own code, which is above all of these
        private static final String SIGNS = ";()+-*/%";
        private static final int MOST_DIGITS = 5;
        private static final int MOST_OPEN = 6;

        // what may stand next
        private static final int LINE_NEXT = 0;
        private static final int BOUND_NEXT = 1;
        private static final int SEMICOLON_NEXT = 2;
        private static final int OPERAND_NEXT = 3;
        private static final int OPERATOR_NEXT = 4;

        private static final int STANDS = 0;
        // a ( among the steps that wait, which are all below 0
        private static final int BRACKET = 0;
        // around each of the 6 ( that may be open, and outside of them, two steps wait at most
        private static final int MOST_WAITING = 3 * MOST_OPEN + 2;

        final Rules draft = new Rules();
        int taped;
        int fault;
        int faultPlace;
        private final byte[] tape = new byte[TAPE_BYTES];
        private final int[] waiting = new int[MOST_WAITING];
        private int manyWaiting;
        private int length;
        private int start;
        private int end;
        private int token;
        private int number;
        private int next;
        private int head;
        private int from;
        private int open;

        void append(int four) {
            for (int shift = 24; shift >= 0 && taped < tape.length; shift -= 8) {
                tape[taped] = (byte) (four >>> shift);
                taped++;
            }
        }

        /** Whether the first so many bytes are without FAULT. */
        boolean readAll(int many) {
            length = many;
            end = 0;
            next = LINE_NEXT;
            draft.clear();
            advance();
            int kind = STANDS;
            for (int i = 0; i <= length && token != END && kind == STANDS; i++) {
                kind = accept();
                if (kind == STANDS) {
                    advance();
                }
            }
            if (kind == STANDS && next != LINE_NEXT) {
                kind = 2;
            }
            fault = kind;
            faultPlace = kind == STANDS ? NONE : start;
            if (kind == STANDS) {
                draft.fillTables();
            }
            return kind == STANDS;
        }

        /** The kind of FAULT of the token, if it is at fault. */
        private int accept() {
            if (token == BAD) {
                return 1;
            }
            switch (next) {
                case LINE_NEXT:
                    return acceptHead();
                case BOUND_NEXT:
                    return acceptBound();
                case OPERAND_NEXT:
                    return acceptOperand();
                case OPERATOR_NEXT:
                    return acceptOperator();
                default:
                    return acceptSemicolon();
            }
        }

        private int acceptHead() {
            head = token;
            if (token == WORLD || token == TAGS) {
                next = BOUND_NEXT;
                return STANDS;
            }
            if (token != MARK && token != TAG) {
                return 2;
            }
            if (token == MARK && draft.marks >= MOST_MARKS) {
                return 4;
            }
            from = draft.emitted();
            open = 0;
            manyWaiting = 0;
            next = OPERAND_NEXT;
            return STANDS;
        }

        private int acceptBound() {
            if (token != NUMBER) {
                return 2;
            }
            if (number < 2 || number > (head == WORLD ? MOST_NAMES : MOST_TAGS)) {
                return 3;
            }
            if (head == WORLD) {
                draft.world = number;
            } else {
                draft.tags = number;
            }
            next = SEMICOLON_NEXT;
            return STANDS;
        }

        private int acceptSemicolon() {
            if (token != ';') {
                return 2;
            }
            draft.lines++;
            next = LINE_NEXT;
            return STANDS;
        }

        private int acceptOperand() {
            switch (token) {
                case '(':
                    if (open >= MOST_OPEN) {
                        return 5;
                    }
                    open++;
                    holdBack(BRACKET);
                    return STANDS;
                case NUMBER:
                    draft.emit(number);
                    break;
                case NAME:
                    draft.emit(Rules.NAME);
                    break;
                case SIZE:
                    draft.emit(Rules.SIZE);
                    break;
                default:
                    return 2;
            }
            next = OPERATOR_NEXT;
            return STANDS;
        }

        private int acceptOperator() {
            int step = stepOf(token);
            if (step != BRACKET) {
                emitWaiting(rankOf(step));
                holdBack(step);
                next = OPERAND_NEXT;
                return STANDS;
            }
            if (token == ')' && open > 0) {
                emitWaiting(1);
                manyWaiting = Math.max(manyWaiting - 1, 0);
                open--;
                return STANDS;
            }
            if (token == ';' && open == 0) {
                emitWaiting(1);
                finishExpression();
                return acceptSemicolon();
            }
            return 2;
        }

        private void finishExpression() {
            if (head == MARK) {
                draft.addMark(from);
            } else {
                draft.setTag(from);
            }
        }

        /** The step of an operator's sign; BRACKET for other tokens. */
        private static int stepOf(int sign) {
            switch (sign) {
                case '+':
                    return Rules.ADD;
                case '-':
                    return Rules.SUBTRACT;
                case '*':
                    return Rules.MULTIPLY;
                case '/':
                    return Rules.DIVIDE;
                case '%':
                    return Rules.REST;
                default:
                    return BRACKET;
            }
        }

        private static int rankOf(int step) {
            if (step == BRACKET) {
                return 0;
            }
            return step == Rules.ADD || step == Rules.SUBTRACT ? 1 : 2;
        }

        private void holdBack(int step) {
            if (manyWaiting < MOST_WAITING) {
                waiting[manyWaiting] = step;
                manyWaiting++;
            }
        }

        /** Steps that wait come before what binds no closer than they do. */
        private void emitWaiting(int rank) {
            for (int i = 0; i < MOST_WAITING && manyWaiting > 0; i++) {
                int step = waiting[manyWaiting - 1];
                if (rankOf(step) < rank) {
                    return;
                }
                draft.emit(step);
                manyWaiting--;
            }
        }

        private int byteAt(int i) {
            return i >= 0 && i < length && i < tape.length ? tape[i] & 255 : NONE;
        }

        private void advance() {
            start = end;
            for (int i = 0; i <= length && isBlank(byteAt(start)); i++) {
                start++;
            }
            end = start;
            int first = byteAt(start);
            if (first == NONE) {
                token = END;
            } else if (isLetter(first)) {
                token = scanWord();
            } else if (isDigit(first)) {
                token = scanNumber();
            } else {
                end++;
                token = SIGNS.indexOf((char) first) >= 0 ? first : BAD;
            }
        }

        private static boolean isBlank(int b) {
            return b == 10 || b == 32;
        }

        private static boolean isLetter(int b) {
            return b >= 'a' && b <= 'z';
        }

        private static boolean isDigit(int b) {
            return b >= '0' && b <= '9';
        }

        private int scanWord() {
            for (int i = 0; i <= length && isLetter(byteAt(end)); i++) {
                end++;
            }
            if (spells("world")) {
                return WORLD;
            }
            if (spells("tags")) {
                return TAGS;
            }
            if (spells("mark")) {
                return MARK;
            }
            if (spells("tag")) {
                return TAG;
            }
            if (spells("name")) {
                return NAME;
            }
            return spells("size") ? SIZE : OTHER_WORD;
        }

        private boolean spells(String word) {
            if (end - start != word.length()) {
                return false;
            }
            for (int i = 0; i < word.length(); i++) {
                if (byteAt(start + i) != word.charAt(i)) {
                    return false;
                }
            }
            return true;
        }

        private int scanNumber() {
            number = 0;
            for (int i = 0; i <= length && isDigit(byteAt(end)); i++) {
                number = i < MOST_DIGITS ? number * 10 + byteAt(end) - '0' : number;
                end++;
            }
            return end - start > MOST_DIGITS ? BAD : NUMBER;
        }
    }

    /** A ROW of any KIND; what the cells hold depends on it (NESTS: a guest and 1, slot behind slot). */
    private static final class Row {
        private static final int MOST_CELLS = MOST_FIRST_LAYER * ((1 << MOST_LAYERS) - 1);

        boolean there;
        int kind;
        int size;
        int marks;
        int extra;
        int layers;
        int pushes;
        private int latestPuts;
        final Names within = new Names();
        private final int[] cells = new int[MOST_CELLS];

        void begin(int newKind, int newSize, int newMarks, int newExtra) {
            there = true;
            kind = newKind;
            size = newSize;
            marks = newMarks;
            extra = newExtra;
            layers = 1;
            pushes = 0;
            latestPuts = 0;
            within.clear();
            clearCells();
        }

        void clearCells() {
            Arrays.fill(cells, 0);
        }

        int cellAt(int i) {
            return i >= 0 && i < cells.length ? cells[i] : 0;
        }

        void setCell(int i, int to) {
            if (i >= 0 && i < cells.length) {
                cells[i] = to;
            }
        }

        int places() {
            return kind == LAYERS ? layerStart(layers) : size;
        }

        private int layerStart(int layer) {
            return size * ((1 << layer) - 1);
        }

        private int layerSize(int layer) {
            return size << layer;
        }

        /** Whether it is of a kind whose places can be laid upon one another. */
        boolean isPlain() {
            return kind == BITS || kind == COUNTS;
        }

        private int fullCell() {
            return kind == COUNTS ? FULL_COUNT : 1;
        }

        boolean says(Rules rules, int name) {
            if (kind == NESTS) {
                return hasGuestLike(rules, name, rules.placeOf(0, name, size))
                        || hasGuestLike(rules, name, rules.placeOf(1, name, size));
            }
            if (kind == SOLVED) {
                return together(rules, name) == rules.tagOf(name);
            }
            // BITS and COUNTS are one layer
            for (int layer = 0; layer < layers; layer++) {
                if (allAbove0(rules, name, layerStart(layer), layerSize(layer))) {
                    return true;
                }
            }
            return false;
        }

        private boolean allAbove0(Rules rules, int name, int start, int width) {
            for (int mark = 0; mark < marks; mark++) {
                if (cellAt(start + rules.placeOf(mark, name, width)) == 0) {
                    return false;
                }
            }
            return true;
        }

        private int together(Rules rules, int name) {
            int sum = 0;
            for (int mark = 0; mark < marks; mark++) {
                sum ^= cellAt(rules.placeOf(mark, name, size));
            }
            return sum;
        }

        /** Puts a name's marks; false: no layer is left for it. */
        boolean mark(Rules rules, int name) {
            if (kind == LAYERS && latestPuts >= extra) {
                if (layers >= MOST_LAYERS) {
                    return false;
                }
                layers++;
                latestPuts = 0;
            }
            raise(rules, name, layerStart(layers - 1), layerSize(layers - 1));
            latestPuts++;
            return true;
        }

        private void raise(Rules rules, int name, int start, int width) {
            for (int mark = 0; mark < marks; mark++) {
                int at = start + rules.placeOf(mark, name, width);
                setCell(at, Math.min(cellAt(at) + 1, fullCell()));
            }
        }

        void unmark(Rules rules, int name) {
            for (int mark = 0; mark < marks; mark++) {
                int at = rules.placeOf(mark, name, size);
                int count = cellAt(at);
                if (count > 0 && count < FULL_COUNT) {
                    setCell(at, count - 1);
                }
            }
        }

        void absorb(Row other) {
            for (int i = 0; i < size; i++) {
                setCell(i, Math.min(cellAt(i) + other.cellAt(i), fullCell()));
            }
            within.addAll(other.within);
        }

        void fold() {
            int half = size / 2;
            for (int i = 0; i < half; i++) {
                setCell(i, Math.min(cellAt(i) + cellAt(i + half), fullCell()));
                setCell(i + half, 0);
            }
            size = half;
        }

        /** The bits of BITS in one number. */
        long bits() {
            long bits = 0;
            for (int i = 0; i < size; i++) {
                bits |= (cellAt(i) == 0 ? 0L : 1L) << i;
            }
            return bits;
        }

        int guestAt(int nest, int slot) {
            return cellAt(nest * extra + slot) - 1;
        }

        void setGuest(int nest, int slot, int name) {
            setCell(nest * extra + slot, name + 1);
        }

        int freeSlot(int nest) {
            for (int slot = 0; slot < extra; slot++) {
                if (guestAt(nest, slot) == NONE) {
                    return slot;
                }
            }
            return NONE;
        }

        int guestsIn(int nest) {
            int guests = 0;
            for (int slot = 0; slot < extra; slot++) {
                if (guestAt(nest, slot) != NONE) {
                    guests++;
                }
            }
            return guests;
        }

        private boolean hasGuestLike(Rules rules, int name, int nest) {
            for (int slot = 0; slot < extra; slot++) {
                int guest = guestAt(nest, slot);
                if (guest != NONE && rules.tagOf(guest) == rules.tagOf(name)) {
                    return true;
                }
            }
            return false;
        }

        void freeGuest(int name) {
            for (int i = 0; i < size * extra; i++) {
                if (cellAt(i) == name + 1) {
                    setCell(i, 0);
                }
            }
        }

        void copyFrom(Row other) {
            there = other.there;
            kind = other.kind;
            size = other.size;
            marks = other.marks;
            extra = other.extra;
            layers = other.layers;
            pushes = other.pushes;
            latestPuts = other.latestPuts;
            within.copyFrom(other.within);
            System.arraycopy(other.cells, 0, cells, 0, cells.length);
        }
    }

    /** What an IMAGE keeps: THE RULES and all ROWS. */
    private static final class Shelf {
        final Rules rules = new Rules();
        final Row[] rows = new Row[MANY_ROWS];

        Shelf() {
            for (int i = 0; i < MANY_ROWS; i++) {
                rows[i] = new Row();
            }
        }

        void removeRows() {
            for (int i = 0; i < MANY_ROWS; i++) {
                rows[i].there = false;
            }
        }

        int rowsThere() {
            int bits = 0;
            for (int i = 0; i < MANY_ROWS; i++) {
                bits |= (rows[i].there ? 1 : 0) << i;
            }
            return bits;
        }

        void copyFrom(Shelf other) {
            rules.copyFrom(other.rules);
            for (int i = 0; i < MANY_ROWS; i++) {
                rows[i].copyFrom(other.rows[i]);
            }
        }
    }

    /** A TRAY, MISSING as long as it isn't there. */
    private static final class Tray {
        boolean there;
        int many;
        private int sort;
        private final long[] numbers = new long[TRAY_PLACES];

        void begin(int newSort, int newMany) {
            there = true;
            sort = newSort;
            many = newMany;
            Arrays.fill(numbers, 0L);
        }

        long numberAt(int i) {
            return i >= 0 && i < numbers.length ? numbers[i] : NONE;
        }

        long keep(int i, long number) {
            if (i >= 0 && i < numbers.length) {
                numbers[i] = cut(number);
            }
            return numberAt(i);
        }

        private long cut(long number) {
            switch (sort) {
                case 0:
                    return (byte) number;
                case 1:
                    return (short) number;
                case 2:
                    return (int) number;
                default:
                    return number;
            }
        }

        boolean allWithin(int least, int most) {
            for (int i = 0; i < many; i++) {
                if (numberAt(i) < least || numberAt(i) > most) {
                    return false;
                }
            }
            return true;
        }

        boolean hasTwoAlike() {
            for (int i = 0; i < many; i++) {
                for (int j = 0; j < i; j++) {
                    if (numberAt(i) == numberAt(j)) {
                        return true;
                    }
                }
            }
            return false;
        }
    }

    /** Puts guests into NESTS, pushing others from nest to nest. */
    private static final class Pusher {
        private final int[] order = new int[MOST_NESTS];
        private final int[] fromNest = new int[MOST_NESTS];
        private final int[] fromSlot = new int[MOST_NESTS];
        private final int[] saved = new int[MOST_NESTS * MOST_SLOTS];
        private int reached;
        private int reachedBits;

        boolean settle(Row row, Rules rules, int name) {
            int first = rules.placeOf(0, name, row.size);
            int second = rules.placeOf(1, name, row.size);
            int nest = row.freeSlot(first) != NONE ? first : second;
            int slot = row.freeSlot(nest);
            if (slot != NONE) {
                row.setGuest(nest, slot, name);
                row.pushes = 0;
                return true;
            }
            int free = search(row, rules, first, second);
            if (free == NONE) {
                return false;
            }
            row.pushes = pushAlong(row, free, name);
            return true;
        }

        /** The first nest with a free slot that is come to. */
        private int search(Row row, Rules rules, int first, int second) {
            reached = 0;
            reachedBits = 0;
            reach(first, NONE, NONE);
            reach(second, NONE, NONE);
            for (int i = 0; i < reached && i < order.length; i++) {
                for (int slot = 0; slot < row.extra; slot++) {
                    int other = otherNest(row, rules, order[i], row.guestAt(order[i], slot));
                    if (reach(other, order[i], slot) && row.freeSlot(other) != NONE) {
                        return other;
                    }
                }
            }
            return NONE;
        }

        /** Whether the nest is come to now and wasn't yet. */
        private boolean reach(int nest, int parent, int slot) {
            if (nest < 0 || nest >= MOST_NESTS || reached >= MOST_NESTS || (reachedBits >> nest & 1) != 0) {
                return false;
            }
            reachedBits |= 1 << nest;
            order[reached] = nest;
            reached++;
            fromNest[nest] = parent;
            fromSlot[nest] = slot;
            return true;
        }

        private static int otherNest(Row row, Rules rules, int nest, int guest) {
            int first = rules.placeOf(0, guest, row.size);
            int second = rules.placeOf(1, guest, row.size);
            if (guest == NONE || first == second) {
                return NONE;
            }
            return nest == first ? second : first;
        }

        /** Moves guests on up to that nest, and the new one into the first slot of the way: how many moved. */
        private int pushAlong(Row row, int last, int name) {
            int nest = last;
            int slot = row.freeSlot(last);
            int moved = 0;
            for (int i = 0; i < MOST_NESTS && fromNest[nest] != NONE; i++) {
                int slotBefore = fromSlot[nest];
                int nestBefore = fromNest[nest];
                row.setGuest(nest, slot, row.guestAt(nestBefore, slotBefore));
                nest = nestBefore;
                slot = slotBefore;
                moved++;
            }
            row.setGuest(nest, slot, name);
            return moved;
        }

        /** Twice as many nests; false: a guest can't be put anew, and all stays. */
        boolean enlarge(Row row, Rules rules) {
            int pushesBefore = row.pushes;
            for (int i = 0; i < saved.length; i++) {
                saved[i] = row.cellAt(i);
            }
            row.clearCells();
            row.size *= 2;
            for (int name = 0; name < MOST_NAMES; name++) {
                if (row.within.has(name) && !settle(row, rules, name)) {
                    row.size /= 2;
                    row.pushes = pushesBefore;
                    for (int i = 0; i < saved.length; i++) {
                        row.setCell(i, saved[i]);
                    }
                    return false;
                }
            }
            return true;
        }
    }

    /** Solves the cells of a ROW from equations; a number has one bit for each cell that an equation holds. */
    private static final class Solver {
        private final long[] held = new long[TRAY_PLACES];
        private final int[] asks = new int[TRAY_PLACES];
        private final int[] answers = new int[MOST_BITS];
        private long taken;

        boolean solveFor(Row row, Rules rules, Tray names) {
            int many = Math.min(names.many, TRAY_PLACES);
            taken = 0;
            for (int i = 0; i < many; i++) {
                state(i, row, rules, (int) names.numberAt(i));
            }
            for (int cell = 0; cell < row.size && cell < MOST_BITS; cell++) {
                int chosen = chooseFor(cell, many);
                answers[cell] = chosen;
                if (chosen != NONE) {
                    joinTo(chosen, cell, many);
                }
            }
            for (int i = 0; i < many; i++) {
                if (held[i] == 0 && asks[i] != 0) {
                    return false;
                }
            }
            settle(row, names, many);
            return true;
        }

        private void state(int i, Row row, Rules rules, int name) {
            held[i] = 0;
            for (int mark = 0; mark < row.marks; mark++) {
                held[i] ^= 1L << rules.placeOf(mark, name, row.size);
            }
            asks[i] = rules.tagOf(name);
        }

        private int chooseFor(int cell, int many) {
            for (int i = 0; i < many; i++) {
                if ((taken >>> i & 1L) == 0 && (held[i] >>> cell & 1L) != 0) {
                    taken |= 1L << i;
                    return i;
                }
            }
            return NONE;
        }

        private void joinTo(int chosen, int cell, int many) {
            for (int i = 0; i < many; i++) {
                if (i != chosen && (held[i] >>> cell & 1L) != 0) {
                    held[i] ^= held[chosen];
                    asks[i] ^= asks[chosen];
                }
            }
        }

        private void settle(Row row, Tray names, int many) {
            for (int cell = 0; cell < row.size && cell < MOST_BITS; cell++) {
                row.setCell(cell, answers[cell] == NONE ? 0 : asks[answers[cell]]);
            }
            row.within.clear();
            for (int i = 0; i < many; i++) {
                row.within.add((int) names.numberAt(i));
            }
        }
    }

    /** Finds out about BITS: what is learned, what would be worst, who is to blame, what is best. */
    private static final class Judge {
        private static final int SIZE_STEP = 8;
        private static final int MARK_COST = 4;
        private static final int ENDLESS = 1000000;

        int foundName;
        int foundLies;
        int foundSize;
        int foundMarks;
        private int foundCost;
        private int world;
        private long known;
        private final Names asked = new Names();
        private final long[] places = new long[MOST_NAMES];
        private final int[] fewest = new int[1 << MOST_MARKS];

        private void lay(Row row, Rules rules) {
            world = Math.min(rules.world, MOST_NAMES);
            for (int name = 0; name < world; name++) {
                places[name] = rules.placesOf(name, row.size, row.marks);
            }
        }

        void hear(Row row, Rules rules, Tray names) {
            lay(row, rules);
            long bits = row.bits();
            known = 0;
            asked.clear();
            for (int i = 0; i < names.many; i++) {
                int name = (int) names.numberAt(i);
                if (name >= 0 && name < world) {
                    asked.add(name);
                    known |= (places[name] & ~bits) == 0 ? places[name] : 0L;
                }
            }
        }

        int knownPlaces() {
            return Long.bitCount(known);
        }

        int knownNames(boolean onlyUnasked) {
            int many = 0;
            for (int name = 0; name < world; name++) {
                if ((places[name] & ~known) == 0 && !(onlyUnasked && asked.has(name))) {
                    many++;
                }
            }
            return many;
        }

        int bestQuestion() {
            int best = NONE;
            int most = NONE;
            for (int name = 0; name < world; name++) {
                int unknown = Long.bitCount(places[name] & ~known);
                if (!asked.has(name) && unknown > most) {
                    best = name;
                    most = unknown;
                }
            }
            return best;
        }

        /** How many names, but one, that aren't put lie within these bits. */
        private int liesWithin(Names within, long bits, int butOne) {
            int lies = 0;
            for (int name = 0; name < world; name++) {
                if ((places[name] & ~bits) == 0 && name != butOne && !within.has(name)) {
                    lies++;
                }
            }
            return lies;
        }

        boolean findWorst(Row row, Rules rules) {
            lay(row, rules);
            long bits = row.bits();
            foundName = NONE;
            foundLies = NONE;
            for (int name = 0; name < world; name++) {
                if (!row.within.has(name)) {
                    int lies = liesWithin(row.within, bits | places[name], name);
                    if (lies > foundLies) {
                        foundLies = lies;
                        foundName = name;
                    }
                }
            }
            return foundName != NONE;
        }

        int fewestHolding(Row row, Rules rules, int blamed) {
            long wanted = rules.placesOf(blamed, row.size, row.marks);
            int all = (1 << Long.bitCount(wanted)) - 1;
            Arrays.fill(fewest, ENDLESS);
            fewest[0] = 0;
            for (int name = 0; name < rules.world; name++) {
                if (row.within.has(name)) {
                    int part = partOf(wanted, rules.placesOf(name, row.size, row.marks));
                    addPart(part, all);
                }
            }
            return all < fewest.length && fewest[all] < ENDLESS ? fewest[all] : NONE;
        }

        /** Which of the wanted places are held, the first of them as the lowest bit. */
        private static int partOf(long wanted, long held) {
            int part = 0;
            int next = 0;
            for (int place = 0; place < MOST_BITS; place++) {
                if ((wanted >>> place & 1L) != 0) {
                    part |= (int) (held >>> place & 1L) << next;
                    next++;
                }
            }
            return part;
        }

        private void addPart(int part, int all) {
            for (int had = 0; had <= all && had < fewest.length; had++) {
                int then = (had | part) & (fewest.length - 1);
                fewest[then] = Math.min(fewest[then], fewest[had] + 1);
            }
        }

        boolean findChosen(Row row, Rules rules, int money) {
            world = Math.min(rules.world, MOST_NAMES);
            foundSize = NONE;
            for (int size = SIZE_STEP; size <= MOST_BITS; size += SIZE_STEP) {
                Arrays.fill(places, 0L);
                for (int marks = 1; marks <= rules.marks && size + MARK_COST * marks <= money; marks++) {
                    weigh(row, rules, size, marks);
                }
            }
            return foundSize != NONE;
        }

        /** One more mark is laid for a size, and kept if it is the best yet. */
        private void weigh(Row row, Rules rules, int size, int marks) {
            long bits = 0;
            for (int name = 0; name < world; name++) {
                places[name] |= 1L << rules.placeOf(marks - 1, name, size);
                bits |= row.within.has(name) ? places[name] : 0L;
            }
            int lies = liesWithin(row.within, bits, NONE);
            int cost = size + MARK_COST * marks;
            boolean better = foundSize == NONE || lies < foundLies
                    || lies == foundLies && (cost < foundCost || cost == foundCost && size < foundSize);
            if (better) {
                foundSize = size;
                foundMarks = marks;
                foundLies = lies;
                foundCost = cost;
            }
        }
    }

    /** Builds the levels of a CASCADE. */
    private static final class Levels {
        int built;
        int took;
        int width;
        private final Names oneSide = new Names();
        private final Names otherSide = new Names();

        /** False: the sizes end before nobody is left. */
        boolean build(Row row, Rules rules, Tray list, Tray sizes) {
            built = 0;
            took = 0;
            width = 0;
            Names taken = oneSide;
            Names asking = otherSide;
            taken.copyFrom(row.within);
            gatherOutside(row, list, asking);
            for (int i = 0; i < sizes.many; i++) {
                int size = (int) sizes.numberAt(i);
                built++;
                took += taken.many();
                width += size;
                keepWronged(rules, taken, asking, size, row.marks);
                if (asking.many() == 0) {
                    return true;
                }
                Names swapped = taken;
                taken = asking;
                asking = swapped;
            }
            return false;
        }

        private static void gatherOutside(Row row, Tray list, Names outside) {
            outside.clear();
            for (int i = 0; i < list.many; i++) {
                int name = (int) list.numberAt(i);
                if (!row.within.has(name)) {
                    outside.add(name);
                }
            }
        }

        /** Of those asking these stay to whom bits of the size with all taken in them say YES. */
        private static void keepWronged(Rules rules, Names taken, Names asking, int size, int marks) {
            long bits = 0;
            for (int name = 0; name < rules.world; name++) {
                if (taken.has(name)) {
                    bits |= rules.placesOf(name, size, marks);
                }
            }
            for (int name = 0; name < rules.world; name++) {
                if (asking.has(name) && (rules.placesOf(name, size, marks) & ~bits) != 0) {
                    asking.remove(name);
                }
            }
        }
    }
}
