import java.util.ArrayDeque;
import java.util.ArrayList;
import java.util.Arrays;
import java.util.List;
import java.util.NoSuchElementException;
import java.util.Random;
import java.util.regex.Pattern;

/** Random runs: each answer is held against a plain second program of the document, which tries everything out. */
public final class ReferenceTest {
    static final int RUNS = 2500;
    static final int CALLS = 70;

    static final String[] NAMES = {"ringers", "town", "rule", "loud", "set", "sheet", "take", "leave", "mend",
        "minutes", "watch", "undo", "lasts", "hush", "team", "strongest", "silence", "crowd", "swap", "ready",
        "rota", "cheapest", "longest", "change", "doubts", "frees", "persuade", "firm", "law", "frozen", "heaviest",
        "noted", "forget", "rows", "rang", "ask", "sick", "risk", "settle", "strike", "years", "keep", "again",
        "sign", "end", "ringer", "person", "count", "row"};

    /** hush() is none of 999 by no run: 99 STRANDS are gone behind 990 rung MINUTES; frees(): EAR is 9 at most. */
    static final List<String> NEVER_REFUSED = List.of("loud", "forget", "rows", "persuade", "firm", "hush", "frees");

    /** What a call asks: its name, its numbers, and the text that is put ahead of it (or null). */
    record Call(String name, int a, int b, int c, int d, String text) {
        @Override
        public String toString() {
            return name + "(" + a + ", " + b + ", " + c + ", " + d + ")" + (text == null ? "" : " \"" + text + "\"");
        }
    }

    public static void main(String[] args) {
        long start = System.nanoTime();
        int[] told = new int[NAMES.length];
        int[] refused = new int[NAMES.length];
        for (int run = 0; run < RUNS; run++) {
            if (!run(run, told, refused)) {
                System.exit(1);
            }
        }
        boolean wide = true;
        for (int i = 0; i < NAMES.length; i++) {
            if (told[i] == 0 || refused[i] == 0 && !NEVER_REFUSED.contains(NAMES[i])) {
                System.out.println(NAMES[i] + ": told " + told[i] + ", below 0 " + refused[i]);
                wide = false;
            }
        }
        System.out.println(RUNS + " runs agree, " + (System.nanoTime() - start) / 1000000 + " ms");
        if (!wide) {
            System.exit(1);
        }
    }

    static boolean run(int seed, int[] told, int[] refused) {
        Random random = new Random(seed);
        MustNotStop real = new MustNotStop();
        Plain plain = new Plain();
        List<Call> calls = new ArrayList<>();
        boolean big = random.nextInt(6) == 0;
        for (int i = 0; i < CALLS; i++) {
            Call call = draw(random, plain, i, big);
            calls.add(call);
            if (call.text != null) {
                put(real, call.text);
                plain.text = call.text;
            }
            String got = answer(() -> call(real, call));
            String due = answer(() -> plain.call(call));
            String gotState = state(real);
            String dueState = plain.state();
            int which = Arrays.asList(NAMES).indexOf(call.name);
            (due.startsWith("-") || due.equals("throws") ? refused : told)[which]++;
            if (!got.equals(due) || !gotState.equals(dueState)) {
                for (Call each : calls) {
                    System.out.println("  " + each);
                }
                System.out.println("run " + seed + ": " + call + "\n answered " + got + ", due is " + due
                    + "\n state " + gotState + "\n due   " + dueState);
                return false;
            }
        }
        return true;
    }

    interface Ask {
        long answer();
    }

    static String answer(Ask ask) {
        try {
            return Long.toString(ask.answer());
        } catch (NoSuchElementException e) {
            return "throws";
        }
    }

    static void put(MustNotStop x, String text) {
        x.end(0);
        for (int i = 0; i < text.length(); i += 4) {
            int v = 0;
            for (int j = 0; j < 4; j++) {
                v = v << 8 | (i + j < text.length() ? text.charAt(i + j) : 0);
            }
            x.sign(v);
        }
        x.end(text.length());
    }

    static String state(MustNotStop x) {
        StringBuilder b = new StringBuilder();
        for (int i = -1; i <= 17; i++) {
            b.append(x.count(i)).append(' ');
        }
        b.append("row");
        for (int i = 0; i < x.count(15); i++) {
            b.append(' ').append(x.row(i));
        }
        b.append(" ringers");
        for (int i = 0; i < x.count(0); i++) {
            for (int what = 0; what <= 4; what++) {
                b.append(' ').append(x.ringer(i, what));
            }
        }
        b.append(" town");
        for (int i = 0; i < x.count(1); i++) {
            for (int what = 0; what <= 2; what++) {
                b.append(' ').append(x.person(i, what));
            }
        }
        return b.toString();
    }

    static long call(MustNotStop x, Call c) {
        switch (c.name) {
            case "ringers": return x.ringers();
            case "town": return x.town();
            case "rule": return x.rule();
            case "loud": return x.loud();
            case "set": return x.set(c.a, c.b);
            case "sheet": return x.sheet(c.a, c.b, c.c, c.d);
            case "take": return x.take(c.a);
            case "leave": return x.leave(c.a);
            case "mend": return x.mend(c.a);
            case "minutes": return x.minutes(c.a);
            case "watch": return x.watch();
            case "undo": return x.undo();
            case "lasts": return x.lasts();
            case "hush": return x.hush();
            case "team": return x.team(c.a);
            case "strongest": return x.strongest(c.a);
            case "silence": return x.silence(c.a);
            case "crowd": return x.crowd(c.a);
            case "swap": return x.swap();
            case "ready": return x.ready(c.a, c.b);
            case "rota": return x.rota(c.a, c.b);
            case "cheapest": return x.cheapest(c.a, c.b);
            case "longest": return x.longest(c.a);
            case "change": return x.change(c.a);
            case "doubts": return x.doubts(c.a);
            case "frees": return x.frees();
            case "persuade": return x.persuade();
            case "firm": return x.firm();
            case "law": return x.law();
            case "frozen": return x.frozen(c.a);
            case "heaviest": return x.heaviest(c.a);
            case "noted": return x.noted(c.a, c.b, c.c);
            case "forget": return x.forget();
            case "rows": return x.rows();
            case "rang": return x.rang(c.a);
            case "ask": return x.ask();
            case "sick": return x.sick(c.a);
            case "risk": return x.risk(c.a);
            case "settle": return x.settle(c.a, c.b);
            case "strike": return x.strike(c.a);
            case "years": return x.years(c.a, c.b);
            case "keep": return x.keep(c.a) ? 1 : -1;
            case "again": return x.again(c.a) ? 1 : -1;
            case "sign": return x.sign(c.a);
            case "end": return x.end(c.a) ? 1 : -1;
            case "ringer": return x.ringer(c.a, c.b);
            case "person": return x.person(c.a, c.b);
            case "count": return x.count(c.a);
            case "row": return x.row(c.a);
            default: throw new IllegalStateException(c.name);
        }
    }

    // ---- what is drawn

    static Call draw(Random r, Plain plain, int i, boolean big) {
        int room = big ? 8 : 3;
        if (i == 0) {
            return new Call("ringers", 0, 0, 0, 0, lines(r, big ? 5 + r.nextInt(4) : r.nextInt(room + 1)));
        }
        if (i == 1) {
            return new Call("town", 0, 0, 0, 0, lines(r, r.nextInt(9)));
        }
        if (i == 2 && r.nextBoolean()) {
            return new Call("rule", 0, 0, 0, 0, lawText(r));
        }
        String name = NAMES[r.nextInt(NAMES.length)];
        if (r.nextInt(3) == 0) {
            name = new String[] {"take", "take", "leave", "minutes", "watch", "mend"}[r.nextInt(6)];
        }
        switch (name) {
            case "ringers":
                return new Call(name, 0, 0, 0, 0, r.nextInt(3) == 0 ? spoilt(r, lines(r, r.nextInt(10)))
                    : lines(r, r.nextInt(big ? 9 : 2)));
            case "town":
                return new Call(name, 0, 0, 0, 0, r.nextInt(3) == 0 ? spoilt(r, lines(r, r.nextInt(10)))
                    : lines(r, r.nextInt(4)));
            case "rule":
            case "law":
                return new Call(name, 0, 0, 0, 0, r.nextInt(3) == 0 ? spoilt(r, lawText(r)) : lawText(r));
            case "watch":
                return new Call(name, 0, 0, 0, 0, r.nextInt(4) == 0 ? spoilt(r, acts(r)) : acts(r));
            default:
                return numbers(r, name, plain, big);
        }
    }

    static Call numbers(Random r, String name, Plain plain, boolean big) {
        int ringer = r.nextInt(10) - 1;
        switch (name) {
            case "set":
                return of(name, r.nextInt(5) - 1, r.nextBoolean() ? r.nextInt(12) - 1 : r.nextInt(33) - 1, 0, 0);
            case "sheet":
                return of(name, r.nextInt(6) - 1, r.nextInt(13) - 2, wild(r), r.nextBoolean() ? wild(r) : r.nextInt(20));
            case "take":
            case "leave":
                return of(name, big ? ringer : r.nextInt(4), 0, 0, 0);
            case "mend":
                return of(name, r.nextInt(105) - 2, 0, 0, 0);
            case "minutes":
                return of(name, r.nextInt(3) > 0 ? r.nextInt(12) : r.nextInt(125) - 2, 0, 0, 0);
            case "team":
            case "heaviest":
                return of(name, r.nextInt(3) > 0 ? r.nextInt(20) : r.nextInt(124) - 1, 0, 0, 0);
            case "strongest":
                return of(name, r.nextInt(5), 0, 0, 0);
            case "silence":
            case "crowd":
                return of(name, r.nextInt(2) > 0 ? r.nextInt(30) - 1 : r.nextInt(1005) - 2, 0, 0, 0);
            case "ready":
                return of(name, ringer, r.nextInt(3) > 0 ? r.nextInt(12) : r.nextInt(64) - 1, 0, 0);
            case "rota":
            case "cheapest":
                int n = r.nextInt(6);
                return of(name, big && n == 4 && r.nextInt(5) > 0 ? 3 : n, r.nextInt(23), 0, 0);
            case "longest":
                return of(name, r.nextInt(5), 0, 0, 0);
            case "change":
                return of(name, r.nextInt(34) - 1, 0, 0, 0);
            case "doubts":
            case "frozen":
            case "sick":
                return of(name, r.nextInt(13) - 1, 0, 0, 0);
            case "noted":
                return of(name, r.nextInt(8) - 1, r.nextInt(8) > 0 ? r.nextInt(60) - 10
                    : new int[] {-1000, -999, 9999, 10000}[r.nextInt(4)], r.nextInt(8) > 0 ? r.nextInt(2)
                    : r.nextInt(4) - 1, 0);
            case "rang":
                return of(name, r.nextInt(8) - 1, 0, 0, 0);
            case "risk":
                return of(name, r.nextInt(104) - 1, 0, 0, 0);
            case "settle":
                return of(name, r.nextInt(23) - 1, r.nextInt(22), 0, 0);
            case "strike":
                return of(name, r.nextBoolean() ? r.nextInt(12) : r.nextInt(103) - 1, 0, 0, 0);
            case "years":
                return of(name, wild(r), r.nextInt(305) - 1, 0, 0);
            case "keep":
            case "again":
                return of(name, r.nextInt(5) - 1, 0, 0, 0);
            case "sign":
                return new Call(name, wild(r), 0, 0, 0, r.nextInt(3) == 0 ? "s".repeat(70 + r.nextInt(11)) : null);
            case "end":
                return of(name, r.nextInt(12) - 2, 0, 0, 0);
            case "ringer":
                return of(name, ringer, r.nextInt(7) - 1, 0, 0);
            case "person":
                return of(name, ringer, r.nextInt(5) - 1, 0, 0);
            case "count":
                return of(name, r.nextInt(20) - 1, 0, 0, 0);
            case "row":
                return of(name, r.nextInt(5) - 1, 0, 0, 0);
            default:
                return of(name, 0, 0, 0, 0);
        }
    }

    static Call of(String name, int a, int b, int c, int d) {
        return new Call(name, a, b, c, d, null);
    }

    static int wild(Random r) {
        switch (r.nextInt(4)) {
            case 0: return r.nextInt();
            case 1: return new int[] {127, 128, 255, 256, 32767, 32768, 65535, 65536, -1, -129, Integer.MIN_VALUE,
                Integer.MAX_VALUE}[r.nextInt(12)];
            default: return r.nextInt(140) - 20;
        }
    }

    static String lines(Random r, int many) {
        StringBuilder b = new StringBuilder();
        for (int i = 0; i < many; i++) {
            b.append(i > 0 ? ";" : "").append(1 + r.nextInt(9)).append(r.nextInt(r.nextBoolean() ? 4 : 10));
        }
        return b.toString();
    }

    static String spoilt(Random r, String text) {
        StringBuilder b = new StringBuilder(text);
        int times = 1 + r.nextInt(2);
        for (int i = 0; i < times; i++) {
            int p = r.nextInt(b.length() + 1);
            char sign = "0123456789;;+-*/<>=(((()))stnwfrmlc x\u00e9\u0000".charAt(r.nextInt(39));
            switch (r.nextInt(4)) {
                case 0: b.setLength(p); break;
                case 1: b.insert(p, sign); break;
                case 2:
                    if (p < b.length()) {
                        b.setCharAt(p, sign);
                    }
                    break;
                default:
                    while (b.length() < 80 && b.length() > 0 && r.nextInt(30) > 0) {
                        b.append(b.charAt(r.nextInt(b.length())));
                    }
            }
        }
        b.setLength(Math.min(80, b.length()));
        return b.toString();
    }

    static String lawText(Random r) {
        String[] some = {"", "s*10-t-w*3-f", "20-t", "s*9-t-w", "s*n-t/2", "m<30", "r>49", "r-48", "(m/5)*5=m",
            "s-t/3", "--s*3-t", "s*10-t-f*9", "(s>4)*9-t/4", "n*9-w", "t<9", "1/0-1", "s*s*s-t*t", "3-m/20",
            "((((s))))-((((t))))", "999*999*999*999*999", "s/f-t", "t/(0-9)+3", "m*7-m/2*14-2", "9-f-t/9"};
        if (r.nextInt(3) > 0) {
            return some[r.nextInt(some.length)];
        }
        for (int tries = 0; tries < 1000; tries++) {
            String text = expression(r, 0);
            if (text.length() <= 40) {
                return text;
            }
        }
        return "s";
    }

    static String expression(Random r, int depth) {
        String text = sum(r, depth);
        return r.nextInt(4) == 0 ? text + "<>=".charAt(r.nextInt(3)) + sum(r, depth) : text;
    }

    static String sum(Random r, int depth) {
        StringBuilder b = new StringBuilder(product(r, depth));
        while (r.nextInt(3) == 0) {
            b.append("+-".charAt(r.nextInt(2))).append(product(r, depth));
        }
        return b.toString();
    }

    static String product(Random r, int depth) {
        StringBuilder b = new StringBuilder(thing(r, depth));
        while (r.nextInt(3) == 0) {
            b.append("*/".charAt(r.nextInt(2))).append(thing(r, depth));
        }
        return b.toString();
    }

    static String thing(Random r, int depth) {
        String minus = "---".substring(0, r.nextInt(5) == 0 ? 1 + r.nextInt(3) : 0);
        if (depth < 4 && r.nextInt(4) == 0) {
            return minus + "(" + expression(r, depth + 1) + ")";
        }
        if (r.nextInt(2) == 0) {
            return minus + r.nextInt(new int[] {10, 100, 1000}[r.nextInt(3)]);
        }
        return minus + "stnwfrm".charAt(r.nextInt(7));
    }

    static String acts(Random r) {
        StringBuilder b = new StringBuilder();
        int many = r.nextInt(7);
        for (int i = 0; i < many; i++) {
            b.append(i > 0 ? ";" : "");
            int ringer = r.nextInt(r.nextInt(5) == 0 ? 10 : 3);
            switch (r.nextInt(6)) {
                case 0: b.append('t').append(ringer); break;
                case 1: b.append('l').append(ringer); break;
                case 2: b.append('c').append(r.nextInt(3)).append(ringer); break;
                case 3: b.append('m').append(r.nextInt(r.nextBoolean() ? 10 : 100)); break;
                case 4: b.append(r.nextInt(12)); break;
                default: b.append(r.nextInt(8) == 0 ? "00" + r.nextInt(10) : "" + r.nextInt(140));
            }
        }
        return b.toString();
    }

    // ---- the plain program

    static final class World implements Cloneable {
        int[] tired = new int[8];
        List<Integer> rope = new ArrayList<>();
        int strands = 50;
        int now;
        int rung;
        int silent;
        int stops;
        int paid;
        List<Integer> doubting = new ArrayList<>();

        World copy() {
            World w = new World();
            w.tired = tired.clone();
            w.rope = new ArrayList<>(rope);
            w.strands = strands;
            w.now = now;
            w.rung = rung;
            w.silent = silent;
            w.stops = stops;
            w.paid = paid;
            w.doubting = new ArrayList<>(doubting);
            return w;
        }
    }

    static int bits(List<Integer> set) {
        int b = 0;
        for (int i : set) {
            b += Math.pow(2, i);
        }
        return b;
    }

    static List<Integer> members(int bits) {
        List<Integer> set = new ArrayList<>();
        for (int i = 0; i < 8; i++) {
            if (bits / (int) Math.pow(2, i) % 2 == 1) {
                set.add(i);
            }
        }
        return set;
    }

    /** Compares from the first number on. */
    static int compare(int[] a, int[] b) {
        return Arrays.compare(a, b);
    }

    static final class Plain {
        final List<int[]> crew = new ArrayList<>();
        final List<int[]> people = new ArrayList<>();
        String text = "";
        String law = "";
        int weight = 5;
        int frost = 0;
        int most = 2;
        World w = new World();
        List<Long> row = new ArrayList<>();
        ArrayDeque<World> past = new ArrayDeque<>();
        World[] kept = new World[3];
        List<int[]> notes = new ArrayList<>();

        String state() {
            StringBuilder b = new StringBuilder();
            for (int i = -1; i <= 17; i++) {
                b.append(count(i)).append(' ');
            }
            b.append("row");
            for (long v : row) {
                b.append(' ').append(v);
            }
            b.append(" ringers");
            for (int i = 0; i < crew.size(); i++) {
                for (int what = 0; what <= 4; what++) {
                    b.append(' ').append(ringer(i, what));
                }
            }
            b.append(" town");
            for (int i = 0; i < people.size(); i++) {
                for (int what = 0; what <= 2; what++) {
                    b.append(' ').append(person(i, what));
                }
            }
            return b.toString();
        }

        long call(Call c) {
            switch (c.name) {
                case "ringers": return enrol(crew);
                case "town": return enrol(people);
                case "rule": return rule();
                case "loud": return loud(w);
                case "set": return set(c.a, c.b);
                case "sheet": return sheet(c.a, c.b, c.c, c.d);
                case "take":
                case "leave":
                case "mend": return deed(c.name, c.a);
                case "minutes": return minutes(c.a);
                case "watch": return watch();
                case "undo": return undo();
                case "lasts": return lasts();
                case "hush": return hush();
                case "team": return team(c.a);
                case "strongest": return strongest(c.a);
                case "silence": return silence(c.a);
                case "crowd": return crowd(c.a);
                case "swap": return swap();
                case "ready": return ready(c.a, c.b);
                case "rota": return rota(c.a, c.b, false);
                case "cheapest": return rota(c.a, c.b, true);
                case "longest": return longest(c.a);
                case "change": return change(c.a);
                case "doubts": return doubts(c.a);
                case "frees": return frees();
                case "persuade": return persuade();
                case "firm": return firm();
                case "law": return law();
                case "frozen": return frozen(c.a);
                case "heaviest": return heaviest(c.a);
                case "noted": return noted(c.a, c.b, c.c);
                case "forget": return forget();
                case "rows": return rows();
                case "rang": return rang(c.a);
                case "ask": return ask();
                case "sick": return sick(c.a);
                case "risk": return risk(c.a);
                case "settle": return settle(c.a, c.b);
                case "strike": return strike(c.a);
                case "years": return years(c.a, c.b);
                case "keep": return keep(c.a);
                case "again": return again(c.a);
                case "sign": return sign(c.a);
                case "end": return end(c.a);
                case "ringer": return ringer(c.a, c.b);
                case "person": return person(c.a, c.b);
                case "count": return count(c.a);
                case "row":
                    if (c.a < 0 || c.a >= row.size()) {
                        throw new NoSuchElementException();
                    }
                    return row.get(c.a);
                default: throw new IllegalStateException(c.name);
            }
        }

        long tell(long answer, long... numbers) {
            row = new ArrayList<>();
            for (long n : numbers) {
                row.add(n);
            }
            return answer;
        }

        // ---- texts: a sign can't stand there, if no whole text begins so

        interface Test {
            boolean holds(String s);
        }

        static int fault(String text, int limit, Test whole, String... ends) {
            for (int p = 0; p < text.length(); p++) {
                if (p == limit) {
                    return limit;
                }
                boolean can = false;
                for (String end : ends) {
                    can |= whole.holds(text.substring(0, p + 1) + end);
                }
                if (!can) {
                    return p;
                }
            }
            return text.isEmpty() || whole.holds(text) ? -1 : text.length();
        }

        long sign(int v) {
            if (text.length() > 76) {
                return -1;
            }
            for (byte b : java.nio.ByteBuffer.allocate(4).putInt(v).array()) {
                text += (char) (b & 255);
            }
            return text.length();
        }

        long end(int n) {
            if (n < 0 || n > text.length()) {
                return -1;
            }
            text = text.substring(0, n);
            return 1;
        }

        static final Pattern LINES = Pattern.compile("[1-9][0-9](;[1-9][0-9])*");

        long enrol(List<int[]> roll) {
            String told = text;
            text = "";
            int room = 8 - roll.size();
            int fault = fault(told, 23, s -> LINES.matcher(s).matches() && s.split(";").length <= room, "", "0", "10");
            // A ; is not refused for want of room: the LINE behind it is.
            if (fault >= 0 && fault < 23 && fault < told.length() && told.charAt(fault) == ';' && fault % 3 == 2) {
                fault++;
            }
            if (fault >= 0) {
                return -1 - fault;
            }
            if (told.isEmpty()) {
                return 0;
            }
            for (String line : told.split(";")) {
                roll.add(new int[] {line.charAt(0) - '0', line.charAt(1) - '0'});
            }
            past.clear();
            kept = new World[3];
            return told.split(";").length;
        }

        static final String[] CLOSINGS = {"", ")", "))", ")))", "))))", "1", "1)", "1))", "1)))", "1))))"};

        int lawFault(String told) {
            return fault(told, 40, s -> new Reader(s).whole(), CLOSINGS);
        }

        long rule() {
            String told = text;
            text = "";
            int fault = lawFault(told);
            if (fault >= 0) {
                return -1 - fault;
            }
            law = told;
            return 0;
        }

        /** Reads an EXPRESSION and works it out at once. */
        static final class Reader {
            final String s;
            int p = 0;
            boolean bad = false;
            int[] letters = new int[128];

            Reader(String s) {
                this.s = s;
            }

            boolean whole() {
                expression(0);
                return !bad && p == s.length();
            }

            char next() {
                return p < s.length() ? s.charAt(p) : 0;
            }

            int expression(int depth) {
                int left = sum(depth);
                char sign = next();
                if (p < s.length() && "<>=".indexOf(sign) >= 0) {
                    p++;
                    int right = sum(depth);
                    return (sign == '<' ? left < right : sign == '>' ? left > right : left == right) ? 1 : 0;
                }
                return left;
            }

            int sum(int depth) {
                int value = product(depth);
                while (!bad && (next() == '+' || next() == '-')) {
                    char sign = next();
                    p++;
                    int other = product(depth);
                    value = sign == '+' ? value + other : value - other;
                }
                return value;
            }

            int product(int depth) {
                int value = thing(depth);
                while (!bad && (next() == '*' || next() == '/')) {
                    char sign = next();
                    p++;
                    int other = thing(depth);
                    value = sign == '*' ? value * other : other == 0 ? 0 : value / other;
                }
                return value;
            }

            int thing(int depth) {
                if (next() == '-') {
                    p++;
                    return -thing(depth);
                }
                int from = p;
                while (p < s.length() && p < from + 3 && Character.digit(next(), 10) >= 0 && next() < 128) {
                    p++;
                }
                if (p > from) {
                    return Integer.parseInt(s.substring(from, p));
                }
                if (next() == '(' && depth < 4) {
                    p++;
                    int value = expression(depth + 1);
                    bad |= next() != ')';
                    p++;
                    return value;
                }
                bad |= next() == 0 || "stnwfrm".indexOf(next()) < 0;
                char letter = next();
                p++;
                return bad ? 0 : letters[letter];
            }
        }

        // ---- a minute

        int loud(World x) {
            return loud(x, law, weight, frost);
        }

        int loud(World x, String law, int weight, int frost) {
            if (x.rope.isEmpty() || x.strands == 0) {
                return 0;
            }
            Reader reader = new Reader(law.isEmpty() ? "s*10-t-w*3-f" : law);
            for (int i : x.rope) {
                reader.letters['s'] += crew.get(i)[0];
                reader.letters['t'] += x.tired[i];
                reader.letters['n']++;
            }
            reader.letters['w'] = weight;
            reader.letters['f'] = frost;
            reader.letters['r'] = x.strands;
            reader.letters['m'] = x.now % 60;
            return reader.expression(0);
        }

        boolean minute(World x) {
            return minute(x, law, weight, frost);
        }

        boolean minute(World x, String law, int weight, int frost) {
            boolean rings = loud(x, law, weight, frost) > 0;
            if (rings) {
                x.rung += 1;
                x.silent = 0;
                if (x.rung % 10 == 0 && x.strands > 0) {
                    x.strands -= 1;
                }
            } else {
                x.silent += 1;
                if (x.silent == most + 1) {
                    x.stops += 1;
                }
            }
            for (int i = 0; i < crew.size(); i++) {
                if (x.rope.contains(i)) {
                    x.tired[i] = x.tired[i] > 97 ? 99 : x.tired[i] + 2;
                    x.paid += crew.get(i)[1];
                } else if (x.tired[i] > 0) {
                    x.tired[i] -= 1;
                }
            }
            x.now += 1;
            List<Integer> before = new ArrayList<>(x.doubting);
            for (int i = 0; i < people.size(); i++) {
                int others = before.size() - (before.contains(i) ? 1 : 0);
                int need = people.get(i)[1];
                if ((x.silent >= people.get(i)[0] || need > 0 && others >= need) && !before.contains(i)) {
                    x.doubting.add(i);
                }
            }
            return rings;
        }

        /** How many minutes are rung ahead of the first that is not. */
        int rings(World from, List<Integer> rope, int upTo) {
            World x = from.copy();
            x.rope = new ArrayList<>(rope);
            int many = 0;
            while (many < upTo && minute(x)) {
                many++;
            }
            return many;
        }

        // ---- calls

        long ringer(int i, int what) {
            if (i < 0 || i >= crew.size() || what < 0 || what > 4) {
                throw new NoSuchElementException();
            }
            return what < 2 ? crew.get(i)[what] : what == 2 ? w.tired[i] : what == 3 ? (w.rope.contains(i) ? 1 : 0)
                : alone(w, i, frost);
        }

        int alone(World from, int i, int frost) {
            World x = from.copy();
            x.rope = List.of(i);
            return loud(x, law, weight, frost);
        }

        long person(int i, int what) {
            if (i < 0 || i >= people.size() || what < 0 || what > 2) {
                throw new NoSuchElementException();
            }
            return what < 2 ? people.get(i)[what] : w.doubting.contains(i) ? 1 : 0;
        }

        long set(int what, int v) {
            int[] low = {1, 0, 0};
            int[] high = {30, 9, 9};
            if (what < 0 || what > 2 || v < low[what] || v > high[what]) {
                return -1;
            }
            int old = what == 0 ? weight : what == 1 ? frost : most;
            weight = what == 0 ? v : weight;
            frost = what == 1 ? v : frost;
            most = what == 2 ? v : most;
            return old;
        }

        long sheet(int kind, int n, int f, int step) {
            if (kind < 0 || kind > 3 || n > 8) {
                return -1;
            }
            if (kind < 3 && n < 0) {
                return -2;
            }
            int entry = f;
            long sum = 0;
            for (int i = 0; i < crew.size(); i++) {
                int v = kind == 0 ? (byte) entry : kind == 1 ? (short) entry : entry;
                w.tired[i] = kind == 3 || i >= n || v < 0 ? 0 : v > 99 ? 99 : v;
                sum += w.tired[i];
                entry += step;
            }
            return kind == 3 ? -3 : sum;
        }

        void remember(World old) {
            past.addLast(old);
            if (past.size() > 15) {
                past.removeFirst();
            }
        }

        int act(String name, int a, int b) {
            boolean is = a >= 0 && a < crew.size();
            switch (name) {
                case "take":
                    if (!is || w.rope.contains(a) || w.rope.size() == 3) {
                        return !is ? -1 : w.rope.contains(a) ? -2 : -3;
                    }
                    w.rope.add(a);
                    return w.rope.size();
                case "leave":
                    if (!is || !w.rope.contains(a)) {
                        return !is ? -1 : -2;
                    }
                    w.rope.remove((Integer) a);
                    return w.rope.size();
                case "change":
                    World old = w.copy();
                    if (act("leave", a, 0) < 0 || act("take", b, 0) < 0) {
                        w = old;
                        return -1;
                    }
                    return 0;
                case "mend":
                    if (a < 1 || a > 99) {
                        return -1;
                    }
                    w.strands = Math.min(99, w.strands + a);
                    return w.strands;
                default:
                    if (a < 0 || a > 120) {
                        return -1;
                    }
                    int rung = 0;
                    for (int i = 0; i < a; i++) {
                        rung += minute(w) ? 1 : 0;
                    }
                    return rung;
            }
        }

        long deed(String name, int a) {
            World old = w.copy();
            int answer = act(name, a, 0);
            if (answer >= 0) {
                remember(old);
            }
            return answer;
        }

        long minutes(int n) {
            World old = w.copy();
            long answer = deed("minutes", n);
            return answer < 0 ? answer : tell(answer, w.stops - old.stops, bits(w.doubting) - bits(old.doubting));
        }

        static final String ACT = "(t[0-9]|l[0-9]|c[0-9][0-9]|m[0-9][0-9]?|[0-9][0-9]?[0-9]?)";
        static final Pattern ACTS = Pattern.compile(ACT + "(;" + ACT + ")*");

        long watch() {
            String told = text;
            text = "";
            int fault = fault(told, 60, s -> ACTS.matcher(s).matches(), "", "0", "00");
            if (fault >= 0) {
                return -1 - fault;
            }
            World old = w.copy();
            int done = 0;
            boolean refused = false;
            for (String act : told.isEmpty() ? new String[0] : told.split(";")) {
                String rest = act.substring(1);
                char kind = act.charAt(0);
                int answer = kind == 't' ? act("take", Integer.parseInt(rest), 0)
                    : kind == 'l' ? act("leave", Integer.parseInt(rest), 0)
                    : kind == 'c' ? act("change", rest.charAt(0) - '0', rest.charAt(1) - '0')
                    : kind == 'm' ? act("mend", Integer.parseInt(rest), 0) : act("minutes", Integer.parseInt(act), 0);
                if (answer < 0) {
                    refused = true;
                    break;
                }
                done++;
            }
            if (done > 0) {
                remember(old);
            }
            return tell(done, refused ? 1 : 0, w.stops - old.stops);
        }

        long undo() {
            if (past.isEmpty()) {
                return -1;
            }
            w = past.removeLast();
            return past.size();
        }

        int stop(World x, String law) {
            for (int i = 1; i <= 999; i++) {
                int stops = x.stops;
                minute(x, law, weight, frost);
                if (x.stops > stops) {
                    return i;
                }
            }
            return 1000;
        }

        long lasts() {
            World x = w.copy();
            int i = stop(x, law);
            return i == 1000 ? -2 : tell(i, x.rung - w.rung, x.paid - w.paid);
        }

        long hush() {
            World x = w.copy();
            for (int i = 0; i <= 998; i++) {
                if (!minute(x)) {
                    return tell(i, x.silent);
                }
            }
            return -2;
        }

        long team(int n) {
            if (n < 1 || n > 120) {
                return -1;
            }
            int[] best = null;
            for (int they = 1; they < 1 << crew.size(); they++) {
                List<Integer> rope = members(they);
                int fees = 0;
                for (int i : rope) {
                    fees += crew.get(i)[1];
                }
                int[] rank = {rope.size(), fees, they};
                if (rope.size() <= 3 && rings(w, rope, n) == n && (best == null || compare(rank, best) < 0)) {
                    best = rank;
                }
            }
            return best == null ? -2 : tell(best[0], best[2], best[1]);
        }

        long strongest(int many) {
            if (many < 1 || many > 3) {
                return -1;
            }
            int[] best = null;
            for (int they = 1; they < 1 << crew.size(); they++) {
                if (members(they).size() == many) {
                    int[] rank = {-rings(w, members(they), 999), they};
                    best = best == null || compare(rank, best) < 0 ? rank : best;
                }
            }
            return best == null ? -2 : tell(-best[0], best[1]);
        }

        long silence(int n) {
            if (n < 1 || n > 999) {
                return -1;
            }
            World x = w.copy();
            int[] lengths = new int[n + 1];
            lengths[0] = x.silent;
            for (int i = 1; i <= n; i++) {
                minute(x);
                lengths[i] = x.silent;
            }
            int longest = Arrays.stream(lengths).max().getAsInt();
            int at = 0;
            while (lengths[at] < longest) {
                at++;
            }
            return tell(longest, at, x.strands);
        }

        long crowd(int n) {
            if (n < 0 || n > 999) {
                return -1;
            }
            World x = w.copy();
            int last = 0;
            for (int i = 1; i <= n; i++) {
                int size = x.doubting.size();
                minute(x);
                last = x.doubting.size() > size ? i : last;
            }
            return tell(bits(x.doubting), last, x.doubting.size());
        }

        long swap() {
            int[] best = null;
            for (int out = 0; out < crew.size(); out++) {
                for (int in = 0; in < crew.size(); in++) {
                    if (w.rope.contains(out) && !w.rope.contains(in)) {
                        List<Integer> rope = new ArrayList<>(w.rope);
                        rope.remove((Integer) out);
                        rope.add(in);
                        int[] rank = {-rings(w, rope, 999), out, in};
                        best = best == null || compare(rank, best) < 0 ? rank : best;
                    }
                }
            }
            return best == null ? -2 : tell(-best[0], best[1], best[2]);
        }

        long ready(int i, int n) {
            if (i < 0 || i >= crew.size() || n < 1 || n > 60) {
                return -1;
            }
            for (int rest = 0; rest <= 120; rest++) {
                World x = w.copy();
                x.rope.remove((Integer) i);
                for (int j = 0; j < rest; j++) {
                    minute(x);
                }
                if (rings(x, List.of(i), n) == n) {
                    return tell(rest, x.tired[i]);
                }
            }
            return -2;
        }

        boolean goes(int[] who, int k) {
            World x = w.copy();
            for (int i : who) {
                x.rope = List.of(i);
                for (int j = 0; j < k; j++) {
                    minute(x);
                    if (x.stops > w.stops) {
                        return false;
                    }
                }
            }
            return true;
        }

        List<int[]> rowsOf(int n) {
            List<int[]> all = new ArrayList<>();
            all.add(new int[0]);
            for (int i = 0; i < n; i++) {
                List<int[]> longer = new ArrayList<>();
                for (int[] one : all) {
                    for (int r = 0; r < crew.size(); r++) {
                        int[] more = Arrays.copyOf(one, i + 1);
                        more[i] = r;
                        longer.add(more);
                    }
                }
                all = longer;
            }
            return all;
        }

        long[] longs(int[] a) {
            return Arrays.stream(a).asLongStream().toArray();
        }

        long rota(int n, int k, boolean fees) {
            if (n < 1 || n > 4 || k < 1 || k > 20) {
                return -1;
            }
            int[] best = null;
            int least = 0;
            for (int[] who : rowsOf(n)) {
                if (goes(who, k)) {
                    int worth = 0;
                    for (int i : who) {
                        worth += crew.get(i)[1] * k;
                    }
                    worth = fees ? worth : (int) Arrays.stream(who).distinct().count();
                    if (best == null || worth < least) {
                        best = who;
                        least = worth;
                    }
                }
            }
            return best == null ? -2 : tell(least, longs(best));
        }

        long longest(int n) {
            if (n < 1 || n > 3) {
                return -1;
            }
            for (int k = 20; k > 0; k--) {
                for (int[] who : rowsOf(n)) {
                    if (goes(who, k)) {
                        return tell(k, longs(who));
                    }
                }
            }
            return -2;
        }

        long change(int n) {
            if (n < 0 || n > 30) {
                return -1;
            }
            World x = w.copy();
            for (int stay = 0; stay <= 999; stay++) {
                World y = x.copy();
                y.rope = new ArrayList<>();
                for (int i = 0; i < n; i++) {
                    minute(y);
                }
                if (y.stops == x.stops) {
                    return stay;
                }
                minute(x);
            }
            return -2;
        }

        List<Integer> inTheEnd(List<Integer> first) {
            List<Integer> they = new ArrayList<>(first);
            boolean more = true;
            while (more) {
                more = false;
                for (int i = 0; i < people.size(); i++) {
                    int need = people.get(i)[1];
                    if (!they.contains(i) && need != 0 && they.size() >= need) {
                        they.add(i);
                        more = true;
                    }
                }
            }
            return they;
        }

        List<Integer> afterSilence(int v) {
            List<Integer> first = new ArrayList<>(w.doubting);
            for (int i = 0; i < people.size(); i++) {
                if (people.get(i)[0] <= v && !first.contains(i)) {
                    first.add(i);
                }
            }
            return inTheEnd(first);
        }

        long doubts(int v) {
            if (v < 0 || v > 9) {
                return -1;
            }
            List<Integer> they = afterSilence(v);
            long hearing = they.stream().filter(i -> people.get(i)[0] <= v).count();
            return tell(bits(they), they.size(), hearing);
        }

        long frees() {
            for (int v = 0; v <= 9; v++) {
                if (afterSilence(v).size() == people.size()) {
                    return v;
                }
            }
            return -2;
        }

        long persuade() {
            int[] best = null;
            for (int set = 0; set < 1 << people.size(); set++) {
                List<Integer> first = new ArrayList<>(w.doubting);
                for (int i : members(set)) {
                    if (!first.contains(i)) {
                        first.add(i);
                    }
                }
                int[] rank = {members(set).size(), set};
                if (inTheEnd(first).size() == people.size() && (best == null || compare(rank, best) < 0)) {
                    best = rank;
                }
            }
            return tell(best[0], best[1]);
        }

        long firm() {
            List<Integer> they = new ArrayList<>();
            for (int i = 0; i < people.size(); i++) {
                List<Integer> others = new ArrayList<>();
                for (int j = 0; j < people.size(); j++) {
                    if (j != i) {
                        others.add(j);
                    }
                }
                int need = people.get(i)[1];
                if (!(need != 0 && others.size() >= need)) {
                    they.add(i);
                }
            }
            return tell(bits(they), they.size());
        }

        long law() {
            String told = text;
            text = "";
            int fault = lawFault(told);
            if (fault >= 0) {
                return -10000 - fault;
            }
            int other = stop(w.copy(), told);
            int own = stop(w.copy(), law);
            return tell(other - own, other, own);
        }

        List<Integer> able(int frost) {
            List<Integer> they = new ArrayList<>();
            for (int i = 0; i < crew.size(); i++) {
                if (alone(w, i, frost) > 0) {
                    they.add(i);
                }
            }
            return they;
        }

        long frozen(int v) {
            if (v < 0 || v > 9) {
                return -1;
            }
            List<Integer> they = able(v);
            return tell(bits(they), they.size());
        }

        long heaviest(int n) {
            if (n < 1 || n > 120) {
                return -1;
            }
            int best = -2;
            for (int v = 1; v <= 30; v++) {
                World x = w.copy();
                boolean all = true;
                for (int i = 0; i < n && all; i++) {
                    all = minute(x, law, v, frost);
                }
                best = all ? v : best;
            }
            return best;
        }

        long noted(int shift, int v, int is) {
            if (shift < 0 || shift > 5 || v < -999 || v > 9999 || is != 0 && is != 1 || notes.size() == 12) {
                return -1;
            }
            notes.add(new int[] {shift, v, is});
            return notes.size();
        }

        long forget() {
            int were = notes.size();
            notes.clear();
            return were;
        }

        /** All rows, one shift behind the other. */
        List<int[]> fitting() {
            World rested = w.copy();
            rested.tired = new int[8];
            List<int[]> all = new ArrayList<>();
            all.add(new int[0]);
            for (int shift = 0; shift < 6; shift++) {
                List<int[]> longer = new ArrayList<>();
                for (int r = 0; r < crew.size(); r++) {
                    int loud = alone(rested, r, frost);
                    boolean fits = true;
                    for (int[] note : notes) {
                        fits &= note[0] != shift || (note[2] == 1 ? loud >= note[1] : loud < note[1]);
                    }
                    for (int[] one : all) {
                        if (fits && (shift == 0 || one[shift - 1] != r)) {
                            int[] more = Arrays.copyOf(one, shift + 1);
                            more[shift] = r;
                            longer.add(more);
                        }
                    }
                }
                all = longer;
            }
            return all;
        }

        long rows() {
            List<int[]> all = fitting();
            int[] least = null;
            for (int[] one : all) {
                least = least == null || compare(one, least) < 0 ? one : least;
            }
            return tell(all.size(), least == null ? new long[0] : longs(least));
        }

        List<Integer> who(int shift, List<int[]> all) {
            List<Integer> they = new ArrayList<>();
            for (int[] one : all) {
                if (!they.contains(one[shift])) {
                    they.add(one[shift]);
                }
            }
            return they;
        }

        long rang(int shift) {
            if (shift < 0 || shift > 5) {
                return -1;
            }
            List<Integer> they = who(shift, fitting());
            return tell(bits(they), they.size());
        }

        long ask() {
            List<int[]> all = fitting();
            if (all.isEmpty()) {
                return -2;
            }
            int[] best = null;
            for (int shift = 0; shift < 6; shift++) {
                int[] rank = {-who(shift, all).size(), shift};
                best = best == null || compare(rank, best) < 0 ? rank : best;
            }
            return tell(best[1], -best[0]);
        }

        /** Who is sick is gone through: parts of 10 to the number of RINGERS. */
        long[] likely(int p) {
            List<Integer> able = able(frost);
            long over = 0;
            long all = 1;
            for (int i = 0; i < crew.size(); i++) {
                all *= 10;
            }
            for (int sick = 0; sick < 1 << crew.size(); sick++) {
                long weight = 1;
                boolean rings = false;
                for (int i = 0; i < crew.size(); i++) {
                    boolean ill = members(sick).contains(i);
                    weight *= ill ? p : 10 - p;
                    rings |= !ill && able.contains(i);
                }
                over += rings ? weight : 0;
            }
            java.math.BigInteger common = java.math.BigInteger.valueOf(over).gcd(java.math.BigInteger.valueOf(all));
            return new long[] {over / common.longValue(), all / common.longValue()};
        }

        long sick(int p) {
            return p < 0 || p > 10 ? -1 : tell(0, likely(p));
        }

        long risk(int v) {
            if (v < 0 || v > 100) {
                return -1;
            }
            int best = -2;
            for (int p = 0; p <= 10; p++) {
                long[] part = likely(p);
                if (part[0] * 100 < v * part[1]) {
                    break;
                }
                best = p;
            }
            return best;
        }

        /** What who offers, and the other one, get from a turn (the first is 1) on. */
        int[] turn(int coins, int turn, int k) {
            if (turn > k) {
                return new int[] {0, 0};
            }
            int[] next = turn(Math.max(0, coins - 1), turn + 1, k);
            int[] best = null;
            for (int offer = coins; offer >= 0; offer--) {
                int[] got = offer >= next[0] ? new int[] {coins - offer, offer} : new int[] {next[1], next[0]};
                best = best == null || got[0] >= best[0] ? got : best;
            }
            return best;
        }

        long settle(int v, int k) {
            if (v < 0 || v > 20 || k < 1 || k > 20) {
                return -1;
            }
            int[] got = turn(v, 1, k);
            return tell(got[0], got[1]);
        }

        int gets(int v, int own, int other) {
            return own == other ? v / 2 - own : own > other ? v - other : 0 - own;
        }

        long strike(int v) {
            if (v < 0 || v > 99) {
                return -1;
            }
            List<int[]> pairs = new ArrayList<>();
            for (int a = 0; a < 10; a++) {
                for (int b = 0; b < 10; b++) {
                    boolean still = true;
                    for (int c = 0; c < 10; c++) {
                        still &= gets(v, c, b) <= gets(v, a, b) && gets(v, c, a) <= gets(v, b, a);
                    }
                    if (still) {
                        pairs.add(new int[] {a, b});
                    }
                }
            }
            return tell(pairs.size(), pairs.isEmpty() ? new long[0] : longs(pairs.get(0)));
        }

        long years(int seed, int n) {
            if (n < 1 || n > 300 || crew.isEmpty()) {
                return -1;
            }
            World x = w.copy();
            int r = seed;
            for (int i = 0; i < n; i++) {
                r = (int) (r * 1103515245L + 12345L);
                int who = (int) (Integer.toUnsignedLong(r) / 65536 % crew.size());
                if (x.rope.contains(who)) {
                    x.rope.remove((Integer) who);
                } else if (x.rope.size() < 3) {
                    x.rope.add(who);
                }
                minute(x);
            }
            return tell(x.stops - w.stops, x.rung - w.rung, Arrays.stream(x.tired).sum(), x.doubting.size());
        }

        long keep(int i) {
            if (i < 0 || i > 2) {
                return -1;
            }
            kept[i] = w.copy();
            return 1;
        }

        long again(int i) {
            if (i < 0 || i > 2 || kept[i] == null) {
                return -1;
            }
            w = kept[i].copy();
            past.clear();
            return 1;
        }

        int count(int what) {
            int[] all = {crew.size(), people.size(), bits(w.rope), w.strands, w.now, w.rung, w.silent, w.stops,
                w.paid, bits(w.doubting), weight, frost, most, notes.size(), past.size(), row.size(), text.length()};
            return what < 0 || what >= all.length ? -100 : all[what];
        }
    }
}
