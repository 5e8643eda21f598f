import java.lang.management.ManagementFactory;
import java.lang.reflect.Constructor;
import java.lang.reflect.Field;
import java.lang.reflect.Method;
import java.lang.reflect.Modifier;
import java.nio.charset.StandardCharsets;
import java.nio.file.Files;
import java.nio.file.Path;
import java.util.ArrayList;
import java.util.Arrays;
import java.util.List;
import java.util.NoSuchElementException;
import java.util.TreeSet;
import java.util.regex.Matcher;
import java.util.regex.Pattern;

/** The face, the rules of LANGUAGE.md as far as a program can see them, and that no call throws or makes anything. */
public final class LanguageTest {
    static final String[] FACE = {"int sign(int)", "boolean end(int)", "int ringers()", "int town()", "int rule()",
        "int ringer(int,int) throws", "int person(int,int) throws", "int loud()", "int set(int,int)",
        "int sheet(int,int,int,int)", "int take(int)", "int leave(int)", "int mend(int)", "int minutes(int)", "int watch()",
        "int undo()", "int lasts()", "int hush()", "int team(int)", "int strongest(int)", "int silence(int)",
        "int crowd(int)", "int swap()", "int ready(int,int)", "int rota(int,int)", "int cheapest(int,int)",
        "int longest(int)", "int change(int)", "int doubts(int)", "int frees()", "int persuade()", "int firm()",
        "int law()", "int frozen(int)", "int heaviest(int)", "int noted(int,int,int)", "int forget()", "int rows()",
        "int rang(int)", "int ask()", "int sick(int)", "int risk(int)", "int settle(int,int)", "int strike(int)",
        "int years(int,int)", "boolean keep(int)", "boolean again(int)", "int count(int)", "long row(int) throws"};

    static int wrong = 0;

    public static void main(String[] args) throws Exception {
        Path source = Path.of(args.length > 0 ? args[0] : "src/main/java/MustNotStop.java");
        face();
        classes();
        text(Files.readString(source, StandardCharsets.UTF_8));
        wildArguments();
        nothingIsMade();
        System.out.println("LanguageTest: " + wrong + " wrong");
        if (wrong > 0) {
            System.exit(1);
        }
    }

    static void due(boolean holds, String what) {
        if (!holds) {
            wrong++;
            System.out.println("due: " + what);
        }
    }

    static void face() {
        Class<?> c = MustNotStop.class;
        due(Modifier.isFinal(c.getModifiers()) && Modifier.isPublic(c.getModifiers()), "public and final");
        TreeSet<String> names = new TreeSet<>();
        TreeSet<String> seen = new TreeSet<>();
        for (Method m : c.getDeclaredMethods()) {
            if (Modifier.isPublic(m.getModifiers())) {
                StringBuilder b = new StringBuilder(m.getReturnType() + " " + m.getName() + "(");
                for (Class<?> p : m.getParameterTypes()) {
                    b.append(b.charAt(b.length() - 1) == '(' ? "" : ",").append(p);
                }
                boolean throwing = Arrays.asList(m.getExceptionTypes()).contains(NoSuchElementException.class);
                seen.add(b + ")" + (throwing ? " throws" : ""));
                names.add(m.getName());
                due(!Modifier.isStatic(m.getModifiers()), m + " of an object");
            } else {
                due(Modifier.isPrivate(m.getModifiers()), m + " private");
            }
        }
        due(seen.equals(new TreeSet<>(Arrays.asList(FACE))), "the methods of the face: " + seen);
        for (Method m : c.getDeclaredMethods()) {
            due(!Modifier.isPrivate(m.getModifiers()) || !names.contains(m.getName()), "a name of its own: " + m);
        }
        for (Field f : c.getDeclaredFields()) {
            due(Modifier.isPrivate(f.getModifiers()) || f.getName().equals("NONE"), f + " private");
        }
        for (Constructor<?> k : c.getDeclaredConstructors()) {
            due(Modifier.isPublic(k.getModifiers()) && k.getParameterCount() == 0, "one constructor");
        }
        for (Class<?> inside : c.getDeclaredClasses()) {
            for (Method m : inside.getDeclaredMethods()) {
                due(!names.contains(m.getName()), "a name of its own: " + m);
            }
        }
    }

    static void classes() {
        List<Class<?>> all = new ArrayList<>(Arrays.asList(MustNotStop.class.getDeclaredClasses()));
        all.add(MustNotStop.class);
        due(all.size() <= 12, "some twelve classes");
        for (Class<?> c : all) {
            int fields = 0;
            for (Field f : c.getDeclaredFields()) {
                boolean fixed = Modifier.isStatic(f.getModifiers());
                due(!fixed || Modifier.isFinal(f.getModifiers()), f + " final");
                fields += fixed ? 0 : 1;
            }
            due(fields <= 20, c + ": some twenty fields");
            for (Method m : c.getDeclaredMethods()) {
                due(m.getParameterCount() <= 7, m + ": seven parameters");
                due(!m.isSynthetic(), m + " synthetic");
            }
        }
    }

    static void text(String source) {
        String bare = source.replaceAll("(?s)/\\*.*?\\*/", "").replaceAll("//[^\n]*", "");
        String[] never = {"->", "::", "synchronized", "assert", "finally", " try ", "catch", "instanceof", "System.exit",
            "System.nano", "System.current", "Math.random", "Thread", "Lambda", "Exact(", "double", "float", "\" +", "+ \"",
            "static {", "package ", "enum ", "record ", "this)"};
        for (String each : never) {
            due(!bare.contains(each), "none of: " + each);
        }
        Matcher imports = Pattern.compile("import [^;]*;").matcher(bare);
        while (imports.find()) {
            due(imports.group().equals("import java.util.NoSuchElementException;"), imports.group());
        }
        Matcher library = Pattern.compile("\\b(Integer|Long|Math|System|Arrays|String)\\.(\\w+)").matcher(bare);
        while (library.find()) {
            due(List.of("Integer.bitCount", "Math.min", "Math.max", "System.arraycopy").contains(library.group()),
                library.group());
        }
        Matcher made = Pattern.compile("throw new (\\w+)\\(\\)").matcher(bare);
        while (made.find()) {
            due(made.group(1).equals("NoSuchElementException"), made.group());
        }
        String longest = "";
        int lines = 0;
        String name = "";
        for (String line : source.split("\n")) {
            boolean method = line.matches(" {4}( {4})?[^ /*}].*\\) (throws \\w+ )?\\{") && !line.contains(" class ");
            lines = method ? 0 : lines + 1;
            name = method ? line.trim() : name;
            if (line.matches(" {4}( {4})?\\}") && lines > 60) {
                longest = name + ": " + lines;
            }
            due(line.length() <= 130, "a line of 130 signs: " + line);
            due(line.chars().allMatch(ch -> ch < 127 && ch >= 32), "signs 32 to 126: " + line);
        }
        due(longest.isEmpty(), "some sixty lines: " + longest);
    }

    static final int[] WILD = {Integer.MIN_VALUE, Integer.MAX_VALUE, Integer.MIN_VALUE + 1, Integer.MAX_VALUE - 1, -1, 0, 1,
        31, 32, 33, 64, 99, 255, 256, 1 << 16, 1 << 30, -100, 1000, 8, 9, 120};

    /** Whatever is asked, no call throws but those that say so. */
    static void wildArguments() {
        for (int world = 0; world < 3; world++) {
            MustNotStop x = new MustNotStop();
            if (world > 0) {
                put(x, "35;17;94;90;22;58;61;73");
                x.ringers();
                put(x, "30;91;92;93;90;55;66;77");
                x.town();
                put(x, world == 1 ? "" : "-(s*999*999/(t-4))+n/(m-3)*r/f-w");
                x.rule();
                x.take(0);
                x.take(7);
            }
            for (int a : WILD) {
                for (int b : WILD) {
                    one(x, a, b);
                }
            }
        }
    }

    static void one(MustNotStop x, int a, int b) {
        x.sign(a); x.end(b); x.ringers(); x.sign(b); x.town(); x.sign(a); x.rule(); x.sign(b); x.watch(); x.sign(a); x.law();
        x.set(a, b); x.sheet(a, b, a, b); x.sheet(2, 8, a, b); x.take(a); x.leave(a); x.mend(a); x.undo(); x.keep(a);
        x.again(b); x.team(a); x.strongest(a); x.ready(a, b); x.rota(a, b); x.cheapest(a, b); x.longest(a); x.change(a);
        x.doubts(a); x.frozen(a); x.heaviest(a); x.noted(a, b, a); x.noted(0, a, b); x.rang(a); x.sick(a); x.risk(a);
        x.settle(a, b); x.strike(a); x.years(a, b); x.years(a, 3); x.count(a); x.minutes(a == 120 ? 1 : a);
        x.silence(a > 100 ? 2 : a); x.crowd(a);
        try {
            x.ringer(a, b);
        } catch (NoSuchElementException e) {
            due(a < 0 || a >= x.count(0) || b < 0 || b > 4, "ringer(" + a + ", " + b + ")");
        }
        try {
            x.person(a, b);
        } catch (NoSuchElementException e) {
            due(a < 0 || a >= x.count(1) || b < 0 || b > 2, "person(" + a + ", " + b + ")");
        }
        try {
            x.row(a);
        } catch (NoSuchElementException e) {
            due(a < 0 || a >= x.count(15), "row(" + a + ")");
        }
    }

    static void put(MustNotStop x, String text) {
        x.end(0);
        for (int i = 0; i < text.length(); i += 4) {
            int v = 0;
            for (int j = 0; j < 4; j++) {
                v = v << 8 | (i + j < text.length() ? text.charAt(i + j) : 0);
            }
            x.sign(v);
        }
        x.end(text.length());
    }

    /** All calls of one run live in one room: calls use the rows that the constructor made. */
    static void nothingIsMade() {
        com.sun.management.ThreadMXBean bean = (com.sun.management.ThreadMXBean) ManagementFactory.getThreadMXBean();
        long thread = Thread.currentThread().getId();
        MustNotStop x = new MustNotStop();
        put(x, "35;17;94;90");
        x.ringers();
        everyQuestion(x);
        long before = bean.getThreadAllocatedBytes(thread);
        for (int i = 0; i < 10; i++) {
            everyQuestion(x);
        }
        long made = bean.getThreadAllocatedBytes(thread) - before;
        due(made < 2000, "calls make nothing: " + made + " bytes");
        before = bean.getThreadAllocatedBytes(thread);
        new MustNotStop();
        made = bean.getThreadAllocatedBytes(thread) - before;
        due(made < 10000, "an object is small: " + made + " bytes");
    }

    static void everyQuestion(MustNotStop x) {
        x.sign(0x33353b31); x.ringers(); x.sign(0x33353b31); x.town(); x.sign(0x73787878); x.end(1); x.rule();
        x.sign(0x312d7431); x.law(); x.rule(); x.ringer(0, 4); x.loud(); x.set(1, 2); x.sheet(0, 4, 1, 1); x.take(1); x.leave(1);
        x.take(0); x.mend(4); x.minutes(9); x.sign(0x313b6d31); x.watch(); x.undo(); x.lasts(); x.hush(); x.team(5);
        x.strongest(2); x.silence(30); x.crowd(30); x.swap(); x.ready(1, 3); x.rota(4, 3); x.cheapest(3, 5); x.longest(2);
        x.change(9); x.doubts(3); x.frees(); x.persuade(); x.firm(); x.frozen(3); x.heaviest(5); x.noted(2, 5, 1); x.rows();
        x.rang(2); x.ask(); x.forget(); x.sick(4); x.risk(50); x.settle(20, 20); x.strike(8); x.years(3, 60); x.keep(1);
        x.again(1); x.count(9); x.row(0); x.leave(0);
    }
}
