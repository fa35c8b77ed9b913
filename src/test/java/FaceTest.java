import java.io.IOException;
import java.lang.reflect.Constructor;
import java.lang.reflect.Field;
import java.lang.reflect.Member;
import java.lang.reflect.Method;
import java.lang.reflect.Modifier;
import java.nio.file.Files;
import java.nio.file.Path;
import java.util.ArrayList;
import java.util.Arrays;
import java.util.List;
import java.util.Random;
import java.util.TreeSet;
import java.util.regex.Matcher;
import java.util.regex.Pattern;

/** The face is the document's and no more; the program keeps to what can be seen of LANGUAGE.md from outside. */
public final class FaceTest {
    private static final Path PROGRAM = Path.of("src/main/java/PerhapsRows.java");
    private static final String[] FACE = {"int feed(int,int,int,int,int)", "int rules(int)", "int fault(int)",
        "int value(int,int,int)", "int place(int,int,int)", "int tag(int)", "void make(int,int,int,int,int)",
        "int of(int,int)", "int cell(int,int)", "int guest(int,int,int)", "boolean yes(int,int)",
        "boolean isPut(int,int)", "int put(int,int)", "boolean take(int,int)", "int join(int,int)", "int halve(int)",
        "int grow(int)", "int solve(int,int)", "boolean lying(int)", "int upper()", "int lower()", "int lie(int,int)",
        "int wronged(int,int,int)", "int worse(int,int)", "int cascade(int,int,int,int)", "int learn(int,int,int)",
        "int ask(int,int)", "int worst(int,int)", "int blame(int,int)", "int choose(int,int,int)",
        "void tray(int,int,int)", "long write(int,int,long)", "int pour(int,int)", "void image(int)",
        "void restore(int)", "int count(int)"};

    private static int wrong = 0;

    private static void hold(boolean holds, String told) {
        if (!holds) {
            wrong++;
            System.out.println("not so: " + told);
        }
    }

    private static String signature(Method m) {
        List<String> types = new ArrayList<>();
        for (Class<?> t : m.getParameterTypes()) {
            types.add(t.getSimpleName());
        }
        return m.getReturnType().getSimpleName() + " " + m.getName() + "(" + String.join(",", types) + ")";
    }

    private static void face() {
        Class<?> c = PerhapsRows.class;
        hold(Modifier.isPublic(c.getModifiers()) && Modifier.isFinal(c.getModifiers()), "the class is public and final");
        TreeSet<String> open = new TreeSet<>();
        TreeSet<String> openNames = new TreeSet<>();
        for (Method m : c.getDeclaredMethods()) {
            if (!Modifier.isPrivate(m.getModifiers())) {
                open.add(signature(m));
                openNames.add(m.getName());
            }
        }
        hold(open.equals(new TreeSet<>(Arrays.asList(FACE))), "the methods are the document's: " + open);
        for (Field f : c.getDeclaredFields()) {
            hold(f.getName().equals("NONE") || isPrivate(f), "the field " + f.getName() + " is private");
        }
        Constructor<?>[] made = c.getDeclaredConstructors();
        hold(made.length == 1 && made[0].getParameterCount() == 0, "there is one constructor");
        hold(c.getDeclaredClasses().length + 1 <= 12, "there are at most twelve classes");
        inside(c, openNames);
        for (Class<?> inner : c.getDeclaredClasses()) {
            hold(Modifier.isStatic(inner.getModifiers()), inner + " is static");
            inside(inner, openNames);
        }
    }

    private static boolean isPrivate(Member m) {
        return Modifier.isPrivate(m.getModifiers());
    }

    private static void inside(Class<?> c, TreeSet<String> openNames) {
        int fields = 0;
        for (Field f : c.getDeclaredFields()) {
            boolean still = Modifier.isStatic(f.getModifiers());
            hold(!still || Modifier.isFinal(f.getModifiers()), c + "." + f.getName() + " is final");
            fields += still ? 0 : 1;
        }
        hold(fields <= 20, c + " has at most twenty fields");
        for (Method m : c.getDeclaredMethods()) {
            hold(m.getParameterCount() <= 7, c + "." + m.getName() + " takes at most seven");
            hold(!m.isSynthetic(), c + "." + m.getName() + " is written out");
            hold(c == PerhapsRows.class && !isPrivate(m) || !openNames.contains(m.getName()),
                    c + "." + m.getName() + " doesn't bear a public name");
        }
    }

    private static void text() throws IOException {
        String raw = Files.readString(PROGRAM);
        hold(raw.chars().allMatch(ch -> ch == '\n' || ch >= 32 && ch < 127), "the text is of plain signs");
        String code = raw.replaceAll("(?s)/\\*.*?\\*/", "").replaceAll("//[^\n]*", "");
        String bare = code.replaceAll("\"[^\"\n]*\"", "\"\"").replaceAll("'[^'\n]'", "0");
        String[] never = {"->", "::", "\\bcatch\\b", "\\btry\\b", "\\bfinally\\b", "\\bsynchronized\\b", "\\bassert\\b",
            "\\bpackage\\b", "\\bdouble\\b", "\\bfloat\\b", "\\bSystem\\.(?!arraycopy)", "Exact\\(", "\\bThread\\b",
            "\\bRandom\\b", "\\bhashCode\\b", "\\btoString\\b", "\\bnull\\b", "while \\(true", "for \\(;;",
            "\\bprotected\\b", "\"\" *\\+", "\\+ *\"\"", "static \\{", "\\bvar\\b", "@"};
        for (String pattern : never) {
            hold(!Pattern.compile(pattern).matcher(bare).find(), "nothing in the program is like " + pattern);
        }
        Matcher imports = Pattern.compile("import ([\\w.]+);").matcher(bare);
        while (imports.find()) {
            hold(List.of("java.util.Arrays", "java.util.NoSuchElementException").contains(imports.group(1)),
                    "import of " + imports.group(1));
        }
        Matcher thrown = Pattern.compile("throw ([^;]*);").matcher(bare);
        while (thrown.find()) {
            hold(thrown.group(1).matches("new (NoSuchElement|IllegalState|IllegalArgument|IndexOutOfBounds)Exception\\(\"\"\\)"),
                    "throw " + thrown.group(1));
        }
        newOnlyAtFirst(bare);
        methodLengths(raw);
    }

    /** What a run makes is counted: objects and arrays come from constructors and initialisers alone. */
    private static void newOnlyAtFirst(String bare) {
        for (String line : bare.split("\n")) {
            if (line.contains("new ") && !line.contains("throw new")) {
                hold(line.matches("\\s+(private )?final [\\w\\[\\]]+ \\w+ = new .*;")
                        || line.matches(" {8,16}\\w+(\\[i\\])? = new \\w+(\\(\\)|\\[\\w+\\]);"), "made at first: " + line);
            }
        }
    }

    private static void methodLengths(String raw) {
        String[] lines = raw.split("\n");
        for (int i = 0; i < lines.length; i++) {
            if (lines[i].matches("( {4}| {8})[a-zA-Z].*[{(,]$|( {4}| {8})[a-zA-Z].*\\)$") && !lines[i].contains("class ")) {
                String close = lines[i].replaceAll("\\S.*", "") + "}";
                int j = i;
                while (j < lines.length && !lines[j].equals(close)) {
                    j++;
                }
                hold(j - i <= 60, "a method is short: " + lines[i].trim());
            }
        }
    }

    /** Any arguments, in any state: nothing but the document's exceptions, by the program's own throws. */
    private static void anyArguments() throws ReflectiveOperationException {
        Random random = new Random(7);
        int[] some = {-1, 0, 1, 2, 3, 4, 5, 8, 15, 16, 40, 64, 128, 256, 600, Integer.MAX_VALUE, Integer.MIN_VALUE};
        for (int run = 0; run < 300; run++) {
            PerhapsRows x = new PerhapsRows();
            x.feed(0x6d61726b, 0x206e616d, 0x653b6d61, 0x726b206e, 0x616d652f);
            x.feed(0x333b2020, 0x20202020, 0x20202020, 0x20202020, 0x20202020);
            x.rules(40);
            for (int i = 0; i < 600; i++) {
                Method m = PerhapsRows.class.getMethods()[random.nextInt(PerhapsRows.class.getMethods().length)];
                if (m.getDeclaringClass() == PerhapsRows.class && !(m.getName().equals("rules") && random.nextInt(20) > 0)) {
                    callOnce(x, m, random, some);
                }
            }
        }
    }

    private static void callOnce(PerhapsRows x, Method m, Random random, int[] some) throws ReflectiveOperationException {
        Object[] a = new Object[m.getParameterCount()];
        for (int i = 0; i < a.length; i++) {
            int v = random.nextInt(9) == 0 ? random.nextInt() : some[random.nextInt(random.nextInt(3) == 0 ? some.length : 6)];
            if (m.getParameterTypes()[i] == long.class) {
                a[i] = (long) v;
            } else {
                a[i] = v;
            }
        }
        try {
            m.invoke(x, a);
        } catch (java.lang.reflect.InvocationTargetException e) {
            Throwable t = e.getCause();
            boolean told = Arrays.asList(m.getExceptionTypes()).contains(t.getClass());
            boolean own = t.getStackTrace()[0].getClassName().startsWith("PerhapsRows");
            hold(told && own, m.getName() + Arrays.toString(a) + " threw " + t);
        }
    }

    public static void main(String[] args) throws Exception {
        face();
        text();
        anyArguments();
        System.out.println(wrong == 0 ? "the face and the language are as due" : wrong + " are not so");
        if (wrong != 0) {
            System.exit(1);
        }
    }
}
