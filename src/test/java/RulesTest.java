import java.io.IOException;
import java.lang.management.ManagementFactory;
import java.lang.reflect.Constructor;
import java.lang.reflect.Field;
import java.lang.reflect.Method;
import java.lang.reflect.Modifier;
import java.nio.file.Files;
import java.nio.file.Path;
import java.util.HashSet;
import java.util.Set;
import java.util.TreeSet;
import java.util.regex.Matcher;
import java.util.regex.Pattern;

/** The face, the rules of the language that can be looked at in the source, and the room that calls take. */
public final class RulesTest {
    private static final String FACE = "piece int int int|of int int|set int int int|row int int int|hoist int|lower int|trim int int|"
        + "feed int|ocean|told int|pass int|on int int|first int|port int|spread|fewest int|best int int|longest int|see int int|"
        + "worn int int|can int int|long odds int int|long mean int|plan int int|ends int|book int int|looked|judge int int|image|undo|"
        + "act int int int|trace int|taken int int|count int|tape int int int|item int int long|long read int int|"
        + "shift int int int int int";

    /** Ahead of which calls the interface says what. */
    private static final String[][] SAID = {
        {"pieces, oceans, the mast", "piece of set row hoist lower trim feed ocean told"}, {"days", "pass on first port"},
        {"what is best", "spread fewest best longest"}, {"seen, odds", "see worn can odds mean"}, {"plans, books", "plan ends book looked"},
        {"judging, the image, acts, tapes", "judge image undo act trace taken count tape item read shift"}};
    private static final Set<Class<?>> PLAIN = Set.of(int.class, long.class, short.class, byte.class, char.class, boolean.class, String.class,
        StringBuilder.class, int[].class, long[].class, short[].class, byte[].class, char[].class, boolean[].class);
    private static final Set<Class<?>> CONSTANT = Set.of(int.class, long.class, boolean.class, char.class, String.class,
        int[].class, long[].class, char[].class, byte[].class);

    public static void main(String[] args) throws IOException {
        face();
        classes();
        String source = Files.readString(Path.of(args[0]));
        said(source);
        source(source);
        library(source);
        room();
        anyArguments();
        Due.end();
    }

    private static void face() {
        Set<String> want = new TreeSet<>(Set.of(FACE.split("\\|"))), got = new TreeSet<>();
        Set<String> hidden = new TreeSet<>();
        for (Method m : MastLeft.class.getDeclaredMethods()) {
            StringBuilder s = new StringBuilder(m.getReturnType() == long.class ? "long " : "").append(m.getName());
            for (Class<?> c : m.getParameterTypes()) {
                s.append(' ').append(c.getName());
            }
            if (Modifier.isPrivate(m.getModifiers())) {
                hidden.add(m.getName());
            } else {
                got.add(s.toString());
                Due.due("a plain public method: " + s, m.getModifiers(), Modifier.PUBLIC);
            }
        }
        Due.due("the methods " + got, got.equals(want) ? 1 : 0, 1);
        for (String s : got) {
            Due.due("hidden as well: " + s, hidden.contains(s.replace("long ", "").split(" ")[0]) ? 1 : 0, 0);
        }
        Constructor<?>[] made = MastLeft.class.getDeclaredConstructors();
        Due.due("constructors", made.length, 1);
        Due.due("a plain public constructor", made[0].getModifiers() + made[0].getParameterCount(), Modifier.PUBLIC);
        Due.due("public and final", MastLeft.class.getModifiers(), Modifier.PUBLIC | Modifier.FINAL);
        Set<String> open = new TreeSet<>();
        for (Field f : MastLeft.class.getDeclaredFields()) {
            if (!Modifier.isPrivate(f.getModifiers())) {
                open.add(f.getName());
            }
            boolean still = Modifier.isFinal(f.getModifiers()) || !Modifier.isStatic(f.getModifiers());
            Due.due("static and not final: " + f.getName(), still ? 1 : 0, 1);
        }
        Due.due("the constants " + open, open.equals(new TreeSet<>(Set.of("NONE", "BAD", "STATE", "FULL", "NO"))) ? 1 : 0, 1);
        Due.due("NONE", MastLeft.NONE, -1);
        Due.due("BAD", MastLeft.BAD, -2);
        Due.due("STATE", MastLeft.STATE, -3);
        Due.due("FULL", MastLeft.FULL, -4);
        Due.due("NO", MastLeft.NO, Long.MIN_VALUE);
    }

    /** The classes inside, and what they hold. */
    private static void classes() {
        Set<Class<?>> own = new HashSet<>(Set.of(MastLeft.class.getDeclaredClasses()));
        own.add(MastLeft.class);
        for (Class<?> c : own) {
            if (c != MastLeft.class) {
                Due.due("static: " + c, Modifier.isStatic(c.getModifiers()) ? 1 : 0, 1);
                Due.due("neither public nor protected: " + c, c.getModifiers() & (Modifier.PUBLIC | Modifier.PROTECTED), 0);
            }
            Due.due("classes inside " + c, c == MastLeft.class ? 0 : c.getDeclaredClasses().length, 0);
            int fields = 0;
            for (Field f : c.getDeclaredFields()) {
                boolean still = Modifier.isStatic(f.getModifiers());
                fields += still ? 0 : 1;
                Class<?> part = f.getType().isArray() ? f.getType().getComponentType() : f.getType();
                boolean may = still ? CONSTANT.contains(f.getType()) : PLAIN.contains(f.getType()) || own.contains(part);
                Due.due("of a type that may be: " + f, may ? 1 : 0, 1);
                Due.due("no other static state: " + f, still && !Modifier.isFinal(f.getModifiers()) ? 1 : 0, 0);
            }
            Due.due("some twenty fields at most: " + c, fields <= 20 ? 1 : 0, 1);
            for (Method m : c.getDeclaredMethods()) {
                Due.due("made by javac, for a lambda or the like: " + m, m.isSynthetic() ? 1 : 0, 0);
            }
        }
        Due.due("twelve classes at most: " + own.size(), own.size() <= 12 ? 1 : 0, 1);
    }

    /** The comments of the interface stand ahead of their calls, and all in the document's order. */
    private static void said(String source) {
        int at = 0;
        for (String[] part : SAID) {
            at = further(source, "    // ---- " + part[0] + "\n", at);
            for (String call : part[1].split(" ")) {
                at = further(source, " " + call + "(", source.indexOf("    public ", at));
            }
        }
    }

    private static int further(String source, String what, int from) {
        int at = source.indexOf(what, Math.max(from, 0));
        Due.due("in its place: " + what.trim(), at < 0 || from < 0 ? 1 : 0, 0);
        return Math.max(at, 0);
    }

    /** Nothing of the library but what the rules list, and signs 1 to 127 alone. */
    private static void library(String source) {
        for (int i = 0; i < source.length(); i++) {
            if (source.charAt(i) < 1 || source.charAt(i) > 127) {
                Due.due("a sign of the source, at " + i, source.charAt(i), 127);
            }
        }
        Set<String> may = Set.of("Math.max", "Math.min", "Math.abs", "Math.floorDiv", "Math.floorMod", "System.arraycopy", "Arrays.fill",
            "Arrays.copyOf", "Arrays.copyOfRange", "Integer.compare", "Long.compare", "Integer.bitCount", "Long.bitCount", "Long.MIN_VALUE");
        Set<String> own = new HashSet<>(Set.of("MastLeft"));
        for (Class<?> c : MastLeft.class.getDeclaredClasses()) {
            own.add(c.getSimpleName());
        }
        String code = source.replaceAll("(?s)/\\*.*?\\*/", "").replaceAll("//[^\n]*", "").replaceAll("\"[^\"]*\"", "\"\"");
        for (Matcher m = Pattern.compile("\\b([A-Z]\\w*[a-z]\\w*)\\b(\\.\\w+)?").matcher(code); m.find();) {
            boolean known = own.contains(m.group(1)) || m.group().equals("String") || may.contains(m.group());
            Due.due("what may be used: " + m.group(), known ? 1 : 0, 1);
        }
        for (Matcher m = Pattern.compile("(\"|[A-Z]{3,})\\s*\\+\\s*\"|\"\\s*\\+").matcher(code); m.find();) {
            Due.due("texts joined by +: " + m.group(), 1, 0);
        }
    }

    private static void source(String source) {
        String code = source.replaceAll("(?s)/\\*.*?\\*/", "").replaceAll("//[^\n]*", "").replaceAll("\"[^\"]*\"", "\"\"");
        String[] banned = {"\\bthrow\\b", "\\btry\\b", "\\bcatch\\b", "\\bsynchronized\\b", "\\bassert\\b", "->", "::", "\\bimport\\b",
            "\\bpackage\\b", "\\bfloat\\b", "\\bdouble\\b", "\\bSystem\\.(?!arraycopy)", "\\bObject\\b", "\\bprotected\\b", "Exact\\b",
            "\\bstatic\\s*\\{", "\\bhashCode\\b", "\\btoString\\b", "@"};
        for (String ban : banned) {
            Due.due("in the source: " + ban, Pattern.compile(ban).matcher(code).find() ? 1 : 0, 0);
        }
        String head = "(?m)^( {4}| {8})(?:public |private |static |final )*(?:\\w+(?:\\[\\])* )?\\w+\\(([^)]*)\\) \\{\n((?s:.*?))^\\1\\}";
        int methods = 0;
        for (Matcher m = Pattern.compile(head).matcher(code); m.find();) {
            methods++;
            int lines = m.group(3).split("\n").length;
            Due.due("sixty lines at most: " + m.group().split("\n")[0], lines <= 60 ? 1 : 0, 1);
            Due.due("seven parameters at most", m.group(2).split(",").length <= 7 ? 1 : 0, 1);
        }
        Due.due("methods were found: " + methods, methods > 70 ? 1 : 0, 1);
    }

    private static void room() {
        MastLeft x = new MastLeft();
        for (int kind = 0; kind < 6; kind++) {
            x.piece(kind, 5, 20 + kind);
        }
        String text = "firm 9 p<9&!(k=1|v>7);weak 1 w>2;wind 6;lash 2;";
        long before = 0;
        com.sun.management.ThreadMXBean beans = (com.sun.management.ThreadMXBean) ManagementFactory.getThreadMXBean();
        long thread = Thread.currentThread().getId();
        for (int i = 0; i < 40; i++) {
            if (i == 20) {
                before = beans.getThreadAllocatedBytes(thread);
            }
            every(x, text, i);
        }
        long taken = beans.getThreadAllocatedBytes(thread) - before;
        Due.due("bytes that 20 rounds of calls made: " + taken, taken < 4096 ? 1 : 0, 1);
    }

    private static void every(MastLeft x, String text, int n) {
        for (int i = 0; i < text.length() - n % 2; i++) {
            x.feed(text.charAt(i));
        }
        x.ocean();
        for (int p = 0; p < 3; p++) {
            x.hoist((p + n) % 6);
        }
        for (int k = 0; k < 8; k++) {
            x.of(k, k);
            x.told(k);
            x.best(k % 2, k);
            x.longest(k);
            x.see(k % 4, k);
            x.plan(k % 5, k);
            x.book(k, k);
            x.worn(k, k % 2);
            x.can(k, k % 2);
            x.act(k, k % 3, n);
            x.tape(k, k % 5, 60);
            x.item(k, k, n);
            x.shift(k, 0, k, 1, 50);
            x.judge(k, 0);
        }
        x.spread();
        x.fewest(30);
        x.first(0);
        x.port(9999);
        x.odds(60, 0);
        x.mean(0);
        x.ends(0);
        x.looked();
        x.on(60, 0);
        x.image();
        x.pass(3);
        x.undo();
    }

    /** No call throws, whatever the numbers are. */
    private static void anyArguments() {
        int[] any = {Integer.MIN_VALUE, Integer.MIN_VALUE + 1, -1000, -2, -1, 0, 1, 2, 3, 6, 10, 20, 99, 128, Integer.MAX_VALUE - 1,
            Integer.MAX_VALUE};
        MastLeft x = Due.mast(10, 20, 30);
        x.tape(0, 0, 5);
        x.tape(1, 0, 5);
        for (int a : any) {
            for (int b : any) {
                for (int c : any) {
                    three(x, a, b, c);
                }
            }
        }
        Due.due("nothing was thrown", 1, 1);
    }

    private static void three(MastLeft x, int a, int b, int c) {
        x.piece(a, b, c);
        x.set(a, b, c);
        x.row(a, b, c);
        x.act(a, b, c);
        x.item(a, b, c);
        x.shift(0, a, 1, b, c);
        x.shift(a, 0, b, 0, c);
        x.tape(a, b, c);
        x.of(a, b);
        x.trim(a, b);
        x.on(a, b);
        x.see(a, b);
        x.plan(a, b);
        x.book(a, b);
        x.judge(a, b);
        x.taken(a, b);
        x.read(a, b);
        x.told(a);
        x.trace(a);
        x.count(a);
    }
}
