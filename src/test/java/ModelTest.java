import java.util.ArrayList;
import java.util.List;
import java.util.Random;

/** Drives the program and the plain model with the same random calls and compares every answer and throw. */
public final class ModelTest {
    private static final int RUNS = 1000;
    private static final int CALLS = 400;
    private static final int NO_BOUND = 12345;

    private final Random random;
    private final PerhapsRows x = new PerhapsRows();
    private final Plain m = new Plain();
    private final List<String> log = new ArrayList<>();
    private boolean differs = false;
    // most runs keep to one kind and size of rows and to marks that scatter, so that rows fill and meet
    private final int focus;
    private final int usualSize;

    private ModelTest(long seed) {
        random = new Random(seed);
        focus = random.nextInt(7) - 1;
        usualSize = 1 + random.nextInt(focus == 2 ? 4 : 24);
    }

    private boolean focused() {
        return focus >= 0 && focus <= 4;
    }

    interface Call {
        Object answer();
    }

    interface Deed {
        void act();
    }

    private static Object done(Deed deed) {
        deed.act();
        return "done";
    }

    /** An answer, or the exact class of what was thrown (a subclass would be the machine's). */
    private static String outcome(Call call) {
        try {
            return String.valueOf(call.answer());
        } catch (RuntimeException e) {
            return "throws." + e.getClass().getName();
        }
    }

    private void same(String told, Call program, Call model) {
        if (differs) {
            return;
        }
        String got = outcome(program);
        String due = outcome(model);
        log.add(told + " -> " + got);
        if (!got.equals(due)) {
            differs = true;
            log.add("    due is " + due);
        }
    }

    // ------------------------------------------------------------ arguments

    private int upTo(int most) {
        return random.nextInt(most + 1);
    }

    private boolean rarely() {
        return random.nextInt(40) == 0;
    }

    private int odd() {
        int[] some = {-1, -2, 65, 256, 257, 1000, 128, 129, Integer.MIN_VALUE, Integer.MAX_VALUE, 41, 16, 17, 7};
        return random.nextInt(3) == 0 ? random.nextInt() : some[random.nextInt(some.length)];
    }

    private int near(int most) {
        return rarely() ? odd() : upTo(most);
    }

    private int name() {
        return rarely() ? odd() : random.nextInt(m.count(1) + (rarely() ? 2 : 0));
    }

    private int row() {
        if (rarely()) {
            return odd();
        }
        for (int i = 0; i < 8; i++) {
            int r = upTo(3);
            if (m.rows[r] != null) {
                return r;
            }
        }
        return upTo(3);
    }

    private int rowOfKind(int kind) {
        for (int i = 0; i < 8; i++) {
            int r = upTo(3);
            if (m.rows[r] != null && m.rows[r].kind == kind) {
                return r;
            }
        }
        return row();
    }

    // ------------------------------------------------------------ texts

    private String expression(int depth) {
        StringBuilder b = new StringBuilder(product(depth));
        for (int i = upTo(2); i > 0; i--) {
            b.append(random.nextBoolean() ? "+" : " - ").append(product(depth));
        }
        return b.toString();
    }

    private String product(int depth) {
        StringBuilder b = new StringBuilder(unit(depth));
        for (int i = upTo(2) * upTo(1); i > 0; i--) {
            b.append("*/%".charAt(upTo(2))).append(unit(depth));
        }
        return b.toString();
    }

    private String unit(int depth) {
        int pick = upTo(9);
        if (pick < 5) {
            return "name";
        }
        if (pick < 6) {
            return "size";
        }
        if (pick < 8 || depth >= 6) {
            return String.valueOf(random.nextInt(rarely() ? 100000 : 20));
        }
        return "(" + expression(depth + 1) + (random.nextBoolean() ? ")" : "\n)");
    }

    private String text() {
        StringBuilder b = new StringBuilder();
        int world = rarely() ? 1 + random.nextInt(256) : 2 + random.nextInt(focused() ? 60 : 30);
        if (random.nextInt(8) != 0) {
            b.append("world ").append(world).append(";");
        }
        if (random.nextInt(3) != 0) {
            b.append("tags ").append(2 + random.nextInt(random.nextBoolean() ? 3 : 63)).append("; ");
        }
        for (int i = upTo(5) + (rarely() ? 3 : 1); i > 0; i--) {
            String e = focused() && upTo(5) > 0 ? scattering() : expression(random.nextInt(4));
            b.append("mark ").append(e).append(random.nextBoolean() ? ";" : " ;\n");
            if (rarely()) {
                b.append("tags 10; world 20;");
            }
        }
        if (random.nextBoolean()) {
            b.append("tag ").append(expression(2)).append(";");
        }
        return random.nextInt(focused() ? 9 : 3) == 0 ? spoilt(b) : b.toString();
    }

    private String scattering() {
        String[] some = {"name*%d+%d", "name*name*%d+%d", "name/%d*%d", "(name+%d)*(name+%d)/7", "name*%d+%d*size",
            "name*(name-%d)*%d/3", "%d+name*size/%d"};
        return String.format(some[random.nextInt(some.length)], 1 + random.nextInt(50), 1 + random.nextInt(50));
    }

    private String spoilt(StringBuilder b) {
        String[] bits = {"(", ")", ";", "name", "mark", "x", "7", "123456", "12345", "$", "\t", "A", " ", "((((((("};
        for (int i = upTo(2); i >= 0; i--) {
            int at = random.nextInt(b.length() + 1);
            if (random.nextBoolean() && at < b.length()) {
                b.deleteCharAt(at);
            } else {
                b.insert(at, rarely() ? "" + (char) upTo(255) : bits[random.nextInt(bits.length)]);
            }
        }
        if (random.nextInt(4) == 0) {
            b.setLength(random.nextInt(b.length() + 1));
        }
        return b.toString();
    }

    private void tell(String text) {
        tell(text, rarely() ? odd() : NO_BOUND);
    }

    private void tell(String text, int bound) {
        int many = Math.min(text.length(), 600);
        for (int at = 0; at < many; at += 20) {
            int[] v = new int[5];
            for (int i = 0; i < 20; i++) {
                int c = at + i < text.length() ? text.charAt(at + i) : ' ';
                v[i / 4] = v[i / 4] << 8 | c;
            }
            same("feed", () -> x.feed(v[0], v[1], v[2], v[3], v[4]), () -> m.feed(v[0], v[1], v[2], v[3], v[4]));
        }
        int n = bound == NO_BOUND ? Math.min(m.count(5), many) : bound;
        same("rules(" + n + ") of " + text, () -> x.rules(n), () -> m.rules(n));
        same("fault(0)", () -> x.fault(0), () -> m.fault(0));
        same("fault(1)", () -> x.fault(1), () -> m.fault(1));
    }

    // ------------------------------------------------------------ calls

    private void makeOne() {
        int r = near(3);
        int kind = focused() && upTo(5) > 0 ? focus : near(4);
        int most = kind == 2 || kind == 3 ? 16 : 64;
        int size = rarely() ? odd() : focused() && upTo(3) > 0 ? Math.min(usualSize, most) : 1 + random.nextInt(random.nextBoolean() ? Math.min(8, most) : most);
        int marks = rarely() ? odd() : kind == 2 ? 2 : focused() && upTo(3) > 0 ? Math.min(3, m.count(3)) : 1 + random.nextInt(Math.max(1, m.count(3)));
        int extra = rarely() ? odd() : kind == 2 ? 1 + upTo(3) : kind == 3 ? 1 + upTo(random.nextBoolean() ? 2 : 19) : 0;
        same("make(" + r + "," + kind + "," + size + "," + marks + "," + extra + ")",
                () -> done(() -> x.make(r, kind, size, marks, extra)),
                () -> done(() -> m.make(r, kind, size, marks, extra)));
    }

    private void putOne() {
        int r = row();
        int n = name();
        same("put(" + r + "," + n + ")", () -> x.put(r, n), () -> m.put(r, n));
    }

    private void changeOne() {
        int r = row();
        int n = name();
        int o = row();
        int t = near(3);
        switch (upTo(6)) {
            case 0 -> same("take(" + r + "," + n + ")", () -> x.take(r, n), () -> m.take(r, n));
            case 1 -> same("join(" + r + "," + o + ")", () -> x.join(r, o), () -> m.join(r, o));
            case 2 -> {
                if (upTo(3) == 0) {
                    same("halve(" + r + ")", () -> x.halve(r), () -> m.halve(r));
                }
            }
            case 3 -> {
                int g = rowOfKind(2);
                same("grow(" + g + ")", () -> x.grow(g), () -> m.grow(g));
            }
            case 4 -> {
                int s = rowOfKind(4);
                same("solve(" + s + "," + t + ")", () -> x.solve(s, t), () -> m.solve(s, t));
            }
            case 5 -> same("pour(" + r + "," + t + ")", () -> x.pour(r, t), () -> m.pour(r, t));
            default -> {
                int k = rowOfKind(upTo(1) + 1);
                same("take(" + k + "," + n + ")", () -> x.take(k, n), () -> m.take(k, n));
            }
        }
    }

    private void fillTray() {
        int t = near(3);
        int sort = near(3);
        int many = rarely() ? odd() : upTo(upTo(4) == 0 ? 40 : 6);
        same("tray(" + t + "," + sort + "," + many + ")",
                () -> done(() -> x.tray(t, sort, many)), () -> done(() -> m.tray(t, sort, many)));
        boolean sizes = random.nextInt(3) == 0;
        int from = name();
        for (int i = 0; i < many && i < 40; i++) {
            int at = i;
            long unlike = Math.floorMod(from + 7L * i, (long) m.count(1));
            long v = rarely() && upTo(3) == 0 ? random.nextLong() : sizes ? 1 + random.nextInt(64)
                    : random.nextInt(4) == 0 ? name() : unlike;
            same("write(" + t + "," + at + "," + v + ")", () -> x.write(t, at, v), () -> m.write(t, at, v));
        }
        int p = near(40);
        long w = random.nextInt(3) == 0 ? random.nextLong() : odd();
        if (rarely()) {
            same("write(" + t + "," + p + "," + w + ")", () -> x.write(t, p, w), () -> m.write(t, p, w));
        }
    }

    private void lookAtRow() {
        int r = row();
        int n = name();
        int a = near(6);
        int b = near(4);
        switch (upTo(6)) {
            case 0 -> same("of(" + r + "," + a + ")", () -> x.of(r, a), () -> m.of(r, a));
            case 1 -> {
                int p = near(70);
                same("cell(" + r + "," + p + ")", () -> x.cell(r, p), () -> m.cell(r, p));
            }
            case 2 -> same("guest(" + r + "," + a + "," + b + ")", () -> x.guest(r, a, b), () -> m.guest(r, a, b));
            case 3 -> same("yes(" + r + "," + n + ")", () -> x.yes(r, n), () -> m.yes(r, n));
            case 4 -> same("isPut(" + r + "," + n + ")", () -> x.isPut(r, n), () -> m.isPut(r, n));
            case 5 -> same("tag(" + n + ")", () -> x.tag(n), () -> m.tag(n));
            default -> {
                int any = rarely() ? random.nextInt() : name();
                int size = near(128);
                same("value(" + a + "," + any + "," + size + ")", () -> x.value(a, any, size), () -> m.value(a, any, size));
                same("place(" + a + "," + any + "," + size + ")", () -> x.place(a, any, size), () -> m.place(a, any, size));
            }
        }
    }

    private void askAboutLies() {
        int r = row();
        int o = row();
        int t = near(3);
        int k = rarely() ? odd() : upTo(5) - 1;
        switch (upTo(3)) {
            case 0 -> {
                same("lying(" + r + ")", () -> x.lying(r), () -> m.lying(r));
                same("upper()", x::upper, m::upper);
                same("lower()", x::lower, m::lower);
            }
            case 1 -> same("lie(" + r + "," + k + ")", () -> x.lie(r, k), () -> m.lie(r, k));
            case 2 -> same("wronged(" + r + "," + t + "," + k + ")", () -> x.wronged(r, t, k), () -> m.wronged(r, t, k));
            default -> same("worse(" + r + "," + o + ")", () -> x.worse(r, o), () -> m.worse(r, o));
        }
    }

    private void judge() {
        int r = upTo(6) == 0 ? row() : rowOfKind(0);
        int t = near(3);
        int u = near(3);
        int n = name();
        int what = near(2);
        int money = rarely() ? odd() : random.nextInt(120);
        switch (upTo(5)) {
            case 0 -> same("cascade(" + r + "," + t + "," + u + "," + what + ")",
                    () -> x.cascade(r, t, u, what), () -> m.cascade(r, t, u, what));
            case 1 -> same("learn(" + r + "," + t + "," + what + ")", () -> x.learn(r, t, what), () -> m.learn(r, t, what));
            case 2 -> same("ask(" + r + "," + t + ")", () -> x.ask(r, t), () -> m.ask(r, t));
            case 3 -> same("worst(" + r + "," + what + ")", () -> x.worst(r, what), () -> m.worst(r, what));
            case 4 -> same("blame(" + r + "," + n + ")", () -> x.blame(r, n), () -> m.blame(r, n));
            default -> same("choose(" + r + "," + money + "," + what + ")",
                    () -> x.choose(r, money, what), () -> m.choose(r, money, what));
        }
    }

    private void turnBack() {
        int i = near(2);
        int what = near(6);
        switch (upTo(2)) {
            case 0 -> same("image(" + i + ")", () -> done(() -> x.image(i)), () -> done(() -> m.image(i)));
            case 1 -> same("restore(" + i + ")", () -> done(() -> x.restore(i)), () -> done(() -> m.restore(i)));
            default -> {
                same("count(" + what + ")", () -> x.count(what), () -> m.count(what));
                same("fault(" + what + ")", () -> x.fault(what), () -> m.fault(what));
            }
        }
    }

    /** All that can be seen of the rows and the rules. */
    private void compareAll() {
        for (int w = -1; w <= 6; w++) {
            int what = w;
            same("count(" + what + ")", () -> x.count(what), () -> m.count(what));
        }
        for (int i = 0; i < 4; i++) {
            int r = i;
            for (int w = 0; w <= 7; w++) {
                int what = w;
                same("of(" + r + "," + what + ")", () -> x.of(r, what), () -> m.of(r, what));
            }
            for (int p = -1; m.rows[r] != null && p <= 240; p++) {
                int at = p;
                same("cell(" + r + "," + at + ")", () -> x.cell(r, at), () -> m.cell(r, at));
            }
            for (int s = 0; m.rows[r] != null && m.rows[r].kind == 2 && s < 64; s++) {
                int at = s;
                same("guest(" + r + "," + at / 4 + "," + at % 4 + ")",
                        () -> x.guest(r, at / 4, at % 4), () -> m.guest(r, at / 4, at % 4));
            }
            for (int n = 0; m.rows[r] != null && n < m.count(1); n++) {
                int name = n;
                same("yes(" + r + "," + name + ")", () -> x.yes(r, name), () -> m.yes(r, name));
                same("isPut(" + r + "," + name + ")", () -> x.isPut(r, name), () -> m.isPut(r, name));
            }
        }
    }

    private void run() {
        tell(text());
        for (int i = 0; i < CALLS && !differs; i++) {
            int pick = upTo(99);
            boolean roomy = m.count(4) != 15;
            if (pick < (focused() ? 1 : 2) || m.count(3) == 0 && pick < 50) {
                tell(text());
            } else if (pick < (roomy ? 10 : 4)) {
                makeOne();
            } else if (pick < 42) {
                putOne();
            } else if (pick < 56) {
                changeOne();
            } else if (pick < 62) {
                fillTray();
            } else if (pick < 72) {
                lookAtRow();
            } else if (pick < 80) {
                askAboutLies();
            } else if (pick < 95) {
                judge();
            } else {
                turnBack();
            }
            if (i % 40 == 39) {
                compareAll();
            }
        }
    }

    // ------------------------------------------------------------ storms: one kind, filled to the brim

    private void tellScattering(int marks) {
        StringBuilder b = new StringBuilder("world " + (16 + random.nextInt(60)) + ";tags " + (2 + random.nextInt(63)) + ";");
        for (int i = 0; i < marks; i++) {
            b.append("mark ").append(scattering()).append(";");
        }
        tell(b.append("tag ").append(scattering()).append(";").toString(), NO_BOUND);
    }

    private void makeRow(int r, int kind, int size, int marks, int extra) {
        same("make(" + r + "," + kind + "," + size + "," + marks + "," + extra + ")",
                () -> done(() -> x.make(r, kind, size, marks, extra)),
                () -> done(() -> m.make(r, kind, size, marks, extra)));
    }

    private void stormNests() {
        tellScattering(2);
        int slots = 1 + upTo(3);
        makeRow(0, 2, 1 + random.nextInt(16), 2, slots);
        for (int i = 0; i < 150 && !differs; i++) {
            int n = random.nextInt(m.count(1));
            if (upTo(9) < 8) {
                same("put(0," + n + ")", () -> x.put(0, n), () -> m.put(0, n));
            } else {
                same("take(0," + n + ")", () -> x.take(0, n), () -> m.take(0, n));
            }
            if (upTo(30) == 0) {
                same("grow(0)", () -> x.grow(0), () -> m.grow(0));
            }
            same("of(0,6)", () -> x.of(0, 6), () -> m.of(0, 6));
        }
        compareAll();
    }

    private void stormBits() {
        int marks = 1 + upTo(5);
        tellScattering(marks);
        int size = 2 * (4 + random.nextInt(28));
        int used = 1 + random.nextInt(marks);
        makeRow(0, upTo(3) == 0 ? 1 : 0, size, used, 0);
        makeRow(1, m.rows[0].kind, size, used, 0);
        for (int i = 0; i < 60 && !differs; i++) {
            int r = upTo(1);
            int n = random.nextInt(m.count(1));
            same("put(" + r + "," + n + ")", () -> x.put(r, n), () -> m.put(r, n));
            int what = upTo(2);
            int money = random.nextInt(100);
            switch (upTo(9)) {
                case 0 -> same("worst(" + r + "," + what + ")", () -> x.worst(r, what), () -> m.worst(r, what));
                case 1 -> same("choose(" + r + "," + money + "," + what + ")",
                        () -> x.choose(r, money, what), () -> m.choose(r, money, what));
                case 2 -> {
                    if (upTo(5) == 0) {
                        same("join(" + r + "," + (1 - r) + ")", () -> x.join(r, 1 - r), () -> m.join(r, 1 - r));
                    }
                }
                case 3 -> {
                    if (upTo(9) == 0) {
                        same("halve(0)", () -> x.halve(0), () -> m.halve(0));
                        same("halve(1)", () -> x.halve(1), () -> m.halve(1));
                    }
                }
                default -> {
                    int k = random.nextInt(m.count(1));
                    same("blame(" + r + "," + k + ")", () -> x.blame(r, k), () -> m.blame(r, k));
                    same("take(" + r + "," + k + ")", () -> x.take(r, k), () -> m.take(r, k));
                }
            }
        }
        stormTrays();
        compareAll();
    }

    private void stormTrays() {
        for (int i = 0; i < 12 && !differs; i++) {
            writeAll(0, upTo(40), 0, m.count(1) - 1);
            writeAll(1, upTo(8), 1, i % 2 == 0 ? 64 : 20);
            int r = upTo(1);
            for (int w = 0; w < 3; w++) {
                int what = w;
                same("cascade(" + r + ",0,1," + what + ")", () -> x.cascade(r, 0, 1, what), () -> m.cascade(r, 0, 1, what));
                same("learn(" + r + ",0," + what + ")", () -> x.learn(r, 0, what), () -> m.learn(r, 0, what));
                same("wronged(" + r + ",0," + what + ")", () -> x.wronged(r, 0, what), () -> m.wronged(r, 0, what));
            }
            same("ask(" + r + ",0)", () -> x.ask(r, 0), () -> m.ask(r, 0));
        }
    }

    private void writeAll(int t, int many, int least, int most) {
        same("tray", () -> done(() -> x.tray(t, 1, many)), () -> done(() -> m.tray(t, 1, many)));
        for (int i = 0; i < many; i++) {
            int at = i;
            long v = least + random.nextInt(most - least + 1);
            same("write(" + t + "," + at + "," + v + ")", () -> x.write(t, at, v), () -> m.write(t, at, v));
        }
    }

    private void stormSolved() {
        int marks = 1 + upTo(2);
        tellScattering(marks);
        makeRow(0, 4, 1 + random.nextInt(64), marks, 0);
        for (int i = 0; i < 20 && !differs; i++) {
            List<Integer> names = new ArrayList<>();
            for (int n = 0; n < m.count(1); n++) {
                names.add(n);
            }
            java.util.Collections.shuffle(names, random);
            int many = upTo(Math.min(upTo(1) == 0 ? 6 : 40, names.size()));
            same("tray", () -> done(() -> x.tray(0, 2, many)), () -> done(() -> m.tray(0, 2, many)));
            for (int j = 0; j < many; j++) {
                int at = j;
                same("write", () -> x.write(0, at, names.get(at)), () -> m.write(0, at, names.get(at)));
            }
            same("solve(0,0)", () -> x.solve(0, 0), () -> m.solve(0, 0));
        }
        compareAll();
    }

    private void stormTexts() {
        String[] bits = {"world", "tags", "mark", "tag", "name", "size", "1", "2", "64", "65", "256", "257", "00002",
            "123456", "99999", "(", "((", "(((", ")", "))", "+", "-", "*", "/", "%", ";", ";", "x", "marks", "$", "\t", " "};
        String[] starts = {"", "world 9;", "mark 1;mark 1;mark 1;mark 1;mark 1;mark 1;", "mark ((((((", "mark (name)",
            "mark ((((((name))))))+", "tags ", "world ", "tag size%"};
        for (int i = 0; i < 40 && !differs; i++) {
            StringBuilder b = new StringBuilder(starts[random.nextInt(starts.length)]);
            for (int j = upTo(5); j >= 0; j--) {
                b.append(bits[random.nextInt(bits.length)]).append(random.nextBoolean() ? " " : "");
            }
            tell(b.toString(), NO_BOUND);
        }
        compareAll();
    }

    private void storm() {
        for (int i = 0; i < 6 && !differs; i++) {
            switch (upTo(3)) {
                case 0 -> stormNests();
                case 3 -> stormTexts();
                case 1 -> stormBits();
                default -> stormSolved();
            }
        }
    }

    public static void main(String[] args) {
        int runs = args.length > 0 ? Integer.parseInt(args[0]) : RUNS;
        int first = args.length > 1 ? Integer.parseInt(args[1]) : 0;
        long calls = 0;
        for (int seed = first; seed < first + runs; seed++) {
            ModelTest test = new ModelTest(seed);
            if (seed % 2 == 0) {
                test.run();
            } else {
                test.storm();
            }
            calls += test.log.size();
            if (test.differs) {
                System.out.println("seed " + seed + ":");
                test.log.forEach(System.out::println);
                System.exit(1);
            }
        }
        System.out.println("the program answered as the model in " + calls + " calls");
    }
}
