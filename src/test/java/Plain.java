import java.math.BigInteger;
import java.util.ArrayList;
import java.util.Arrays;
import java.util.HashSet;
import java.util.LinkedHashSet;
import java.util.List;
import java.util.NoSuchElementException;
import java.util.Set;
import java.util.TreeMap;
import java.util.TreeSet;

/**
 * The document once more, word by word and slowly, in another way than the program does it:
 * sets and lists of the Java library, expressions computed from their tokens, sets of names tried one by one.
 * ModelTest compares the two.
 */
final class Plain {
    static final int NONE = -1;

    // ------------------------------------------------------------ the rules

    record Token(String word, int place, boolean good) {
        boolean isNumber() {
            return good && Character.isDigit(word.charAt(0));
        }
    }

    static final class Text {
        int lines = 0;
        int world = 64;
        int tags = 16;
        List<List<String>> marks = new ArrayList<>();
        List<String> tag = List.of("name");
    }

    static final class Faulty extends Exception {
        final int kind;
        final int place;

        Faulty(int kind, int place) {
            super("fault", null, false, false);
            this.kind = kind;
            this.place = place;
        }
    }

    static List<Token> tokens(String text) {
        List<Token> all = new ArrayList<>();
        int i = 0;
        while (i < text.length()) {
            char c = text.charAt(i);
            if (c == ' ' || c == '\n') {
                i++;
                continue;
            }
            String rest = text.substring(i);
            String word = rest.replaceFirst("(?s)^([a-z]+|[0-9]+|.).*$", "$1");
            boolean good = word.matches("[a-z]+|[0-9]{1,5}|[;()+\\-*/%]");
            all.add(new Token(word, i, good));
            i += word.length();
        }
        return all;
    }

    /** Goes along the tokens with what may stand next. */
    static Text read(String text) throws Faulty {
        Text made = new Text();
        String state = "line";
        String head = "";
        int open = 0;
        List<String> expression = null;
        for (Token t : tokens(text)) {
            TreeSet<Integer> kinds = new TreeSet<>();
            if (!t.good()) {
                kinds.add(1);
            }
            String w = t.word();
            boolean operand = t.isNumber() || w.equals("name") || w.equals("size");
            String next = null;
            switch (state) {
                case "line" -> {
                    if (w.equals("world") || w.equals("tags")) {
                        next = "bound";
                    }
                    if (w.equals("mark") || w.equals("tag")) {
                        next = "operand";
                        expression = new ArrayList<>();
                        open = 0;
                    }
                    if (w.equals("mark") && made.marks.size() == 6) {
                        kinds.add(4);
                    }
                    head = w;
                }
                case "bound" -> {
                    if (t.isNumber()) {
                        next = "semicolon";
                        int n = Integer.parseInt(w);
                        if (n < 2 || n > (head.equals("world") ? 256 : 64)) {
                            kinds.add(3);
                        } else if (head.equals("world")) {
                            made.world = n;
                        } else {
                            made.tags = n;
                        }
                    }
                }
                case "semicolon" -> {
                    if (w.equals(";")) {
                        next = "line";
                        made.lines++;
                    }
                }
                case "operand" -> {
                    if (operand) {
                        next = "operator";
                    }
                    if (w.equals("(")) {
                        next = "operand";
                        open++;
                        if (open == 7) {
                            kinds.add(5);
                        }
                    }
                    expression.add(w);
                }
                default -> {
                    if (w.length() == 1 && "+-*/%".contains(w)) {
                        next = "operand";
                        expression.add(w);
                    } else if (w.equals(")") && open > 0) {
                        next = "operator";
                        open--;
                        expression.add(w);
                    } else if (w.equals(";") && open == 0) {
                        next = "line";
                        made.lines++;
                        if (head.equals("mark")) {
                            made.marks.add(expression);
                        } else {
                            made.tag = expression;
                        }
                    }
                }
            }
            if (next == null) {
                kinds.add(2);
            }
            if (!kinds.isEmpty()) {
                throw new Faulty(kinds.first(), t.place());
            }
            state = next;
        }
        if (!state.equals("line")) {
            throw new Faulty(2, text.length());
        }
        return made;
    }

    /** Splits at the last + or - outside of brackets, else at the last * / %. */
    static int compute(List<String> e, int name, int size) {
        if (e.size() == 1) {
            String w = e.get(0);
            return w.equals("name") ? name : w.equals("size") ? size : Integer.parseInt(w);
        }
        for (String signs : new String[] {"+-", "*/%"}) {
            int open = 0;
            for (int i = e.size() - 1; i >= 0; i--) {
                String w = e.get(i);
                open += w.equals(")") ? 1 : w.equals("(") ? -1 : 0;
                if (open == 0 && signs.contains(w)) {
                    BigInteger a = BigInteger.valueOf(compute(e.subList(0, i), name, size));
                    BigInteger b = BigInteger.valueOf(compute(e.subList(i + 1, e.size()), name, size));
                    return switch (w) {
                        case "+" -> a.add(b).intValue();
                        case "-" -> a.subtract(b).intValue();
                        case "*" -> a.multiply(b).intValue();
                        case "/" -> b.signum() == 0 ? 0 : a.divide(b).intValue();
                        default -> b.signum() == 0 ? 0 : a.remainder(b).intValue();
                    };
                }
            }
        }
        return compute(e.subList(1, e.size() - 1), name, size);
    }

    // ------------------------------------------------------------ the state

    static final class Row {
        int kind;
        int size;
        int marks;
        int extra;
        int pushes = 0;
        TreeSet<Integer> put = new TreeSet<>();
        int[] cells;
        List<int[]> layers = new ArrayList<>();
        List<Integer> putsOfLayers = new ArrayList<>();
        Integer[][] nests;

        Row copy() {
            Row r = new Row();
            r.kind = kind;
            r.size = size;
            r.marks = marks;
            r.extra = extra;
            r.pushes = pushes;
            r.put = new TreeSet<>(put);
            r.cells = cells.clone();
            for (int[] l : layers) {
                r.layers.add(l.clone());
            }
            r.putsOfLayers = new ArrayList<>(putsOfLayers);
            if (nests != null) {
                r.nests = copyOf(nests);
            }
            return r;
        }
    }

    static Integer[][] copyOf(Integer[][] nests) {
        Integer[][] c = new Integer[nests.length][];
        for (int i = 0; i < nests.length; i++) {
            c[i] = nests[i].clone();
        }
        return c;
    }

    record Image(Text rules, Row[] rows) {
    }

    Text rules = new Text();
    Row[] rows = new Row[4];
    long[][] trays = new long[4][];
    int[] sorts = new int[4];
    Image[] images = new Image[3];
    List<Integer> tape = new ArrayList<>();
    int fault = 0;
    int faultPlace = NONE;
    BigInteger upper = BigInteger.ZERO;
    BigInteger lower = BigInteger.ZERO;

    // ------------------------------------------------------------ calls: the rules

    int feed(int a, int b, int c, int d, int e) {
        if (tape.size() > 580) {
            return NONE;
        }
        for (int x : new int[] {a, b, c, d, e}) {
            for (byte part : BigInteger.valueOf((x & 0xffffffffL) | 0x100000000L).toByteArray()) {
                tape.add(part & 255);
            }
            // the byte of the 1 that was set ahead of the four
            tape.remove(tape.size() - 5);
        }
        return tape.size();
    }

    int rules(int n) {
        if (n < 0 || n > tape.size()) {
            throw new IllegalArgumentException();
        }
        StringBuilder text = new StringBuilder();
        for (int b : tape.subList(0, n)) {
            text.append((char) b);
        }
        tape.clear();
        try {
            rules = read(text.toString());
            rows = new Row[4];
            fault = 0;
            faultPlace = NONE;
            return rules.lines;
        } catch (Faulty f) {
            fault = f.kind;
            faultPlace = f.place;
            return -10 - f.kind;
        }
    }

    int fault(int what) {
        return what == 0 ? fault : what == 1 ? faultPlace : NONE;
    }

    int value(int mark, int name, int size) {
        if (mark < 0 || mark >= rules.marks.size()) {
            throw new NoSuchElementException();
        }
        if (size < 1 || size > 128) {
            throw new IllegalArgumentException();
        }
        return compute(rules.marks.get(mark), name, size);
    }

    int place(int mark, int name, int size) {
        return Math.floorMod(value(mark, name, size), size);
    }

    int tag(int name) {
        needName(name);
        return Math.floorMod(compute(rules.tag, name, rules.tags), rules.tags);
    }

    private void needName(long name) {
        if (name < 0 || name >= rules.world) {
            throw new IllegalArgumentException();
        }
    }

    private List<Integer> places(int name, int size, int marks) {
        List<Integer> p = new ArrayList<>();
        for (int m = 0; m < marks; m++) {
            p.add(place(m, name, size));
        }
        return p;
    }

    // ------------------------------------------------------------ calls: rows

    void make(int row, int kind, int size, int marks, int extra) {
        if (row < 0 || row > 3) {
            throw new NoSuchElementException();
        }
        int[] mostSize = {64, 64, 16, 16, 64};
        int[] leastExtra = {0, 0, 1, 1, 0};
        int[] mostExtra = {0, 0, 4, 20, 0};
        int[] leastMarks = {1, 1, 2, 1, 1};
        int[] mostMarks = {6, 6, 2, 6, 3};
        if (kind < 0 || kind > 4 || size < 1 || size > mostSize[kind] || marks > rules.marks.size()
                || marks < leastMarks[kind] || marks > mostMarks[kind]
                || extra < leastExtra[kind] || extra > mostExtra[kind]) {
            throw new IllegalArgumentException();
        }
        Row r = new Row();
        r.kind = kind;
        r.size = size;
        r.marks = marks;
        r.extra = extra;
        r.cells = new int[size];
        if (kind == 2) {
            r.nests = new Integer[size][extra];
        }
        if (kind == 3) {
            r.layers.add(new int[size]);
            r.putsOfLayers.add(0);
        }
        rows[row] = r;
    }

    private Row row(int row) {
        if (row < 0 || row > 3 || rows[row] == null) {
            throw new NoSuchElementException();
        }
        return rows[row];
    }

    int of(int row, int what) {
        Row r = row(row);
        int[] all = {r.kind, r.size, r.marks, r.extra, r.put.size(), Math.max(1, r.layers.size()), r.pushes};
        if (what < 0 || what >= all.length) {
            throw new IllegalArgumentException();
        }
        return all[what];
    }

    int cell(int row, int place) {
        Row r = row(row);
        List<Integer> all = new ArrayList<>();
        if (r.kind == 2) {
            for (Integer[] nest : r.nests) {
                all.add((int) Arrays.stream(nest).filter(g -> g != null).count());
            }
        } else if (r.kind == 3) {
            for (int[] l : r.layers) {
                Arrays.stream(l).forEach(all::add);
            }
        } else {
            Arrays.stream(r.cells).forEach(all::add);
        }
        if (place < 0 || place >= all.size()) {
            throw new IndexOutOfBoundsException();
        }
        return all.get(place);
    }

    int guest(int row, int nest, int slot) {
        Row r = row(row);
        needKind(r, 2);
        if (nest < 0 || nest >= r.nests.length || slot < 0 || slot >= r.extra) {
            throw new IndexOutOfBoundsException();
        }
        return r.nests[nest][slot] == null ? NONE : r.nests[nest][slot];
    }

    private static void needKind(Row r, int kind) {
        if (r.kind != kind) {
            throw new IllegalStateException();
        }
    }

    boolean yes(int row, int name) {
        Row r = row(row);
        needName(name);
        return says(r, name);
    }

    private boolean says(Row r, int name) {
        switch (r.kind) {
            case 2: {
                for (int nest : places(name, r.size, 2)) {
                    for (Integer g : r.nests[nest]) {
                        if (g != null && tag(g) == tag(name)) {
                            return true;
                        }
                    }
                }
                return false;
            }
            case 3:
                return r.layers.stream().anyMatch(l -> places(name, l.length, r.marks).stream().allMatch(p -> l[p] == 1));
            case 4: {
                int all = 0;
                for (int p : places(name, r.size, r.marks)) {
                    all ^= r.cells[p];
                }
                return all == tag(name);
            }
            default:
                return places(name, r.size, r.marks).stream().allMatch(p -> r.cells[p] > 0);
        }
    }

    boolean isPut(int row, int name) {
        Row r = row(row);
        needName(name);
        return r.put.contains(name);
    }

    int put(int row, int name) {
        Row r = row(row);
        if (r.kind == 4) {
            throw new IllegalStateException();
        }
        needName(name);
        return putIn(r, name);
    }

    private int putIn(Row r, int name) {
        if (r.put.contains(name)) {
            return 1;
        }
        if (r.kind == 0) {
            places(name, r.size, r.marks).forEach(p -> r.cells[p] = 1);
        } else if (r.kind == 1) {
            places(name, r.size, r.marks).forEach(p -> r.cells[p] += r.cells[p] < 15 ? 1 : 0);
        } else if (r.kind == 2) {
            int pushes = nestle(r.nests, name);
            if (pushes == NONE) {
                return NONE;
            }
            r.pushes = pushes;
        } else {
            int last = r.layers.size() - 1;
            if (r.putsOfLayers.get(last) == r.extra) {
                if (last == 3) {
                    return NONE;
                }
                r.layers.add(new int[2 * r.layers.get(last).length]);
                r.putsOfLayers.add(0);
                last++;
            }
            int[] layer = r.layers.get(last);
            places(name, layer.length, r.marks).forEach(p -> layer[p] = 1);
            r.putsOfLayers.set(last, r.putsOfLayers.get(last) + 1);
        }
        r.put.add(name);
        return 0;
    }

    /** The way to each nest that was come to is kept whole: nest, slot, nest, slot, .., nest. PUSHES, or NONE. */
    private int nestle(Integer[][] nests, int name) {
        int size = nests.length;
        for (int nest : places(name, size, 2)) {
            int free = Arrays.asList(nests[nest]).indexOf(null);
            if (free >= 0) {
                nests[nest][free] = name;
                return 0;
            }
        }
        List<List<Integer>> ways = new ArrayList<>();
        Set<Integer> come = new LinkedHashSet<>(places(name, size, 2));
        come.forEach(nest -> ways.add(List.of(nest)));
        for (int i = 0; i < ways.size(); i++) {
            List<Integer> way = ways.get(i);
            int nest = way.get(way.size() - 1);
            for (int slot = 0; slot < nests[nest].length; slot++) {
                List<Integer> both = places(nests[nest][slot], size, 2);
                int other = both.get(0) == nest ? both.get(1) : both.get(0);
                if (other == nest || !come.add(other)) {
                    continue;
                }
                List<Integer> further = new ArrayList<>(way);
                further.add(slot);
                further.add(other);
                ways.add(further);
                int free = Arrays.asList(nests[other]).indexOf(null);
                if (free >= 0) {
                    return pushAlong(nests, further, free, name);
                }
            }
        }
        return NONE;
    }

    private static int pushAlong(Integer[][] nests, List<Integer> way, int free, int name) {
        int pushed = name;
        for (int i = 0; i + 1 < way.size(); i += 2) {
            int was = nests[way.get(i)][way.get(i + 1)];
            nests[way.get(i)][way.get(i + 1)] = pushed;
            pushed = was;
        }
        nests[way.get(way.size() - 1)][free] = pushed;
        return way.size() / 2;
    }

    boolean take(int row, int name) {
        Row r = row(row);
        if (r.kind != 1 && r.kind != 2) {
            throw new IllegalStateException();
        }
        needName(name);
        if (!r.put.remove(name)) {
            return false;
        }
        if (r.kind == 1) {
            places(name, r.size, r.marks).forEach(p -> r.cells[p] -= r.cells[p] == 15 || r.cells[p] == 0 ? 0 : 1);
        } else {
            for (Integer[] nest : r.nests) {
                for (int s = 0; s < nest.length; s++) {
                    nest[s] = nest[s] != null && nest[s] == name ? null : nest[s];
                }
            }
        }
        return true;
    }

    int join(int row, int other) {
        Row a = row(row);
        Row b = row(other);
        if (a.kind != b.kind || a.kind > 1 || a.size != b.size || a.marks != b.marks) {
            throw new IllegalStateException();
        }
        if (row == other) {
            throw new IllegalArgumentException();
        }
        for (int p = 0; p < a.size; p++) {
            a.cells[p] = a.kind == 0 ? a.cells[p] | b.cells[p] : Math.min(15, a.cells[p] + b.cells[p]);
        }
        a.put.addAll(b.put);
        return a.put.size();
    }

    int halve(int row) {
        Row r = row(row);
        if (r.kind > 1 || r.size % 2 == 1) {
            throw new IllegalStateException();
        }
        int half = r.size / 2;
        int[] cells = new int[half];
        for (int p = 0; p < half; p++) {
            cells[p] = r.kind == 0 ? r.cells[p] | r.cells[p + half] : Math.min(15, r.cells[p] + r.cells[p + half]);
        }
        r.cells = cells;
        r.size = half;
        return half;
    }

    int grow(int row) {
        Row r = row(row);
        needKind(r, 2);
        if (r.size > 8) {
            throw new IllegalStateException();
        }
        Integer[][] bigger = new Integer[2 * r.size][r.extra];
        int pushes = r.pushes;
        for (int name : r.put) {
            pushes = nestle(bigger, name);
            if (pushes == NONE) {
                return NONE;
            }
        }
        r.nests = bigger;
        r.size *= 2;
        r.pushes = pushes;
        return r.size;
    }

    private long[] tray(int tray) {
        if (tray < 0 || tray > 3) {
            throw new NoSuchElementException();
        }
        return trays[tray];
    }

    private static void needTray(long[] tray) {
        if (tray == null) {
            throw new IllegalStateException();
        }
    }

    int solve(int row, int tray) {
        Row r = row(row);
        long[] names = tray(tray);
        needKind(r, 4);
        needTray(names);
        Set<Long> unlike = new HashSet<>();
        for (long n : names) {
            needName(n);
            if (!unlike.add(n)) {
                throw new IllegalArgumentException();
            }
        }
        List<TreeSet<Integer>> holds = new ArrayList<>();
        List<Integer> asks = new ArrayList<>();
        for (long n : names) {
            TreeSet<Integer> h = new TreeSet<>();
            places((int) n, r.size, r.marks).forEach(p -> toggle(h, p));
            holds.add(h);
            asks.add(tag((int) n));
        }
        TreeMap<Integer, Integer> takenFor = new TreeMap<>();
        for (int c = 0; c < r.size; c++) {
            for (int e = 0; e < holds.size(); e++) {
                if (!takenFor.containsValue(e) && holds.get(e).contains(c)) {
                    takenFor.put(c, e);
                    for (int o = 0; o < holds.size(); o++) {
                        if (o != e && holds.get(o).contains(c)) {
                            int to = o;
                            holds.get(e).forEach(p -> toggle(holds.get(to), p));
                            asks.set(o, asks.get(o) ^ asks.get(e));
                        }
                    }
                    break;
                }
            }
        }
        for (int e = 0; e < holds.size(); e++) {
            if (holds.get(e).isEmpty() && asks.get(e) != 0) {
                return NONE;
            }
        }
        r.cells = new int[r.size];
        takenFor.forEach((c, e) -> r.cells[c] = asks.get(e));
        r.put.clear();
        for (long n : names) {
            r.put.add((int) n);
        }
        return names.length;
    }

    private static void toggle(Set<Integer> set, int x) {
        if (!set.remove(x)) {
            set.add(x);
        }
    }

    // ------------------------------------------------------------ calls: lies

    private List<Integer> lies(Row r) {
        List<Integer> all = new ArrayList<>();
        for (int n = 0; n < rules.world; n++) {
            if (!r.put.contains(n) && says(r, n)) {
                all.add(n);
            }
        }
        return all;
    }

    boolean lying(int row) {
        Row r = row(row);
        BigInteger above = BigInteger.valueOf(lies(r).size());
        BigInteger below = BigInteger.valueOf(rules.world - r.put.size());
        if (below.signum() == 0) {
            upper = BigInteger.ZERO;
            lower = BigInteger.ZERO;
            return false;
        }
        upper = above.divide(above.gcd(below));
        lower = below.divide(above.gcd(below));
        return true;
    }

    int upper() {
        return upper.intValue();
    }

    int lower() {
        return lower.intValue();
    }

    int lie(int row, int k) {
        List<Integer> all = lies(row(row));
        return k < 0 || k >= all.size() ? NONE : all.get(k);
    }

    int wronged(int row, int tray, int k) {
        Row r = row(row);
        long[] numbers = tray(tray);
        needTray(numbers);
        List<Integer> lies = lies(r);
        List<Integer> found = new ArrayList<>();
        for (long n : numbers) {
            if (n >= 0 && n < rules.world && lies.contains((int) n)) {
                found.add((int) n);
            }
        }
        return k == NONE ? found.size() : k < 0 || k >= found.size() ? NONE : found.get(k);
    }

    int worse(int row, int other) {
        Row a = row(row);
        Row b = row(other);
        return lies(a).size() - lies(b).size();
    }

    private Set<Integer> ones(Set<Integer> names, int size, int marks) {
        Set<Integer> ones = new TreeSet<>();
        names.forEach(n -> ones.addAll(places(n, size, marks)));
        return ones;
    }

    int cascade(int row, int list, int sizes, int what) {
        Row r = row(row);
        long[] l = tray(list);
        long[] s = tray(sizes);
        needKind(r, 0);
        needTray(l);
        needTray(s);
        if (what < 0 || what > 2) {
            throw new IllegalArgumentException();
        }
        for (long n : l) {
            needName(n);
        }
        for (long n : s) {
            if (n < 1 || n > 64) {
                throw new IllegalArgumentException();
            }
        }
        List<Set<Integer>> taken = new ArrayList<>();
        taken.add(r.put);
        int width = 0;
        for (int i = 0; i < s.length; i++) {
            int size = (int) s[i];
            width += size;
            Set<Integer> ones = ones(taken.get(i), size, r.marks);
            Set<Integer> asked = new TreeSet<>();
            if (i == 0) {
                for (long n : l) {
                    asked.add((int) n);
                }
                asked.removeAll(r.put);
            } else {
                asked.addAll(taken.get(i - 1));
            }
            asked.removeIf(n -> !ones.containsAll(places(n, size, r.marks)));
            if (asked.isEmpty()) {
                return what == 0 ? i + 1 : what == 1 ? taken.stream().mapToInt(Set::size).sum() : width;
            }
            taken.add(asked);
        }
        return NONE;
    }

    // ------------------------------------------------------------ calls: who asks

    private Set<Integer> learned(Row r, long[] numbers) {
        Set<Integer> known = new TreeSet<>();
        for (long n : numbers) {
            if (says(r, (int) n)) {
                known.addAll(places((int) n, r.size, r.marks));
            }
        }
        return known;
    }

    private static boolean holds(long[] numbers, int name) {
        return Arrays.stream(numbers).anyMatch(n -> n == name);
    }

    int learn(int row, int tray, int what) {
        Row r = row(row);
        long[] numbers = tray(tray);
        needKind(r, 0);
        needTray(numbers);
        if (what < 0 || what > 2) {
            throw new IllegalArgumentException();
        }
        for (long n : numbers) {
            needName(n);
        }
        Set<Integer> known = learned(r, numbers);
        if (what == 0) {
            return known.size();
        }
        int many = 0;
        for (int n = 0; n < rules.world; n++) {
            if (known.containsAll(places(n, r.size, r.marks)) && (what == 1 || !holds(numbers, n))) {
                many++;
            }
        }
        return many;
    }

    int ask(int row, int tray) {
        learn(row, tray, 0);
        Row r = row(row);
        Set<Integer> known = learned(r, tray(tray));
        int best = NONE;
        int most = -1;
        for (int n = 0; n < rules.world; n++) {
            Set<Integer> unlike = new TreeSet<>(places(n, r.size, r.marks));
            unlike.removeAll(known);
            if (!holds(tray(tray), n) && unlike.size() > most) {
                best = n;
                most = unlike.size();
            }
        }
        return best;
    }

    int worst(int row, int what) {
        Row r = row(row);
        needKind(r, 0);
        if (what < 0 || what > 1) {
            throw new IllegalArgumentException();
        }
        int best = NONE;
        int most = NONE;
        for (int n = 0; n < rules.world; n++) {
            if (!r.put.contains(n)) {
                Row then = r.copy();
                putIn(then, n);
                int lies = lies(then).size();
                if (lies > most) {
                    best = n;
                    most = lies;
                }
            }
        }
        return what == 0 ? best : most;
    }

    int blame(int row, int name) {
        Row r = row(row);
        needKind(r, 0);
        needName(name);
        Set<Integer> wanted = new TreeSet<>(places(name, r.size, r.marks));
        Set<Set<Integer>> reached = new HashSet<>();
        reached.add(new TreeSet<>());
        for (int many = 1; many <= wanted.size(); many++) {
            Set<Set<Integer>> next = new HashSet<>();
            for (Set<Integer> had : reached) {
                for (int n : r.put) {
                    Set<Integer> then = new TreeSet<>(places(n, r.size, r.marks));
                    then.retainAll(wanted);
                    then.addAll(had);
                    if (then.equals(wanted)) {
                        return many;
                    }
                    next.add(then);
                }
            }
            reached = next;
        }
        return NONE;
    }

    int choose(int row, int money, int what) {
        Row r = row(row);
        if (money < 0 || money > 999 || what < 0 || what > 2) {
            throw new IllegalArgumentException();
        }
        List<int[]> all = new ArrayList<>();
        for (int size = 64; size >= 8; size -= 8) {
            for (int marks = rules.marks.size(); marks >= 1; marks--) {
                int cost = size + 4 * marks;
                if (cost > money) {
                    continue;
                }
                Set<Integer> ones = ones(r.put, size, marks);
                int lies = 0;
                for (int n = 0; n < rules.world; n++) {
                    lies += !r.put.contains(n) && ones.containsAll(places(n, size, marks)) ? 1 : 0;
                }
                all.add(new int[] {lies, cost, size, marks});
            }
        }
        all.sort(Arrays::compare);
        return all.isEmpty() ? NONE : what == 0 ? all.get(0)[2] : what == 1 ? all.get(0)[3] : all.get(0)[0];
    }

    // ------------------------------------------------------------ calls: trays, images

    void tray(int tray, int sort, int many) {
        tray(tray);
        if (sort < 0 || sort > 3 || many < 0 || many > 40) {
            throw new IllegalArgumentException();
        }
        trays[tray] = new long[many];
        sorts[tray] = sort;
    }

    long write(int tray, int place, long v) {
        long[] numbers = tray(tray);
        needTray(numbers);
        if (place < 0 || place >= numbers.length) {
            throw new IndexOutOfBoundsException();
        }
        int cut = 64 - (8 << sorts[tray]);
        numbers[place] = v << cut >> cut;
        return numbers[place];
    }

    int pour(int row, int tray) {
        Row r = row(row);
        long[] numbers = tray(tray);
        if (r.kind == 4) {
            throw new IllegalStateException();
        }
        needTray(numbers);
        int many = 0;
        for (long n : numbers) {
            if (n < 0 || n >= rules.world || putIn(r, (int) n) == NONE) {
                break;
            }
            many++;
        }
        return many;
    }

    private static Row[] copyOf(Row[] rows) {
        Row[] c = new Row[4];
        for (int i = 0; i < 4; i++) {
            c[i] = rows[i] == null ? null : rows[i].copy();
        }
        return c;
    }

    void image(int i) {
        if (i < 0 || i > 2) {
            throw new NoSuchElementException();
        }
        images[i] = new Image(rules, copyOf(rows));
    }

    void restore(int i) {
        if (i < 0 || i > 2) {
            throw new NoSuchElementException();
        }
        if (images[i] == null) {
            throw new IllegalStateException();
        }
        rules = images[i].rules();
        rows = copyOf(images[i].rows());
    }

    int count(int what) {
        int there = 0;
        for (int i = 0; i < 4; i++) {
            there += rows[i] == null ? 0 : 1 << i;
        }
        int[] all = {rules.lines, rules.world, rules.tags, rules.marks.size(), there, tape.size()};
        return what < 0 || what >= all.length ? NONE : all[what];
    }
}
