import java.nio.charset.StandardCharsets;
import java.nio.file.Files;
import java.nio.file.Path;
import java.util.ArrayList;
import java.util.List;
import java.util.NoSuchElementException;
import java.util.regex.Matcher;
import java.util.regex.Pattern;

/**
 * Each sentence of the document that names a boundary has a test of its own, which stands behind its words.
 * The words are looked for in the document, and each place there that names a boundary must be among them.
 */
public final class BoundaryTest {
    static final int TERMS = 0;
    static final int PROMISES = 50;
    /** 23 signs, 8 LINES. */
    static final String EIGHT = "11;22;33;44;55;66;77;88";
    /** 40 signs, 29. */
    static final String FORTY = "1+".repeat(19) + "10";
    /** 59 signs, 30 ACTS. */
    static final String THIRTY_ACTS = "1;".repeat(29) + "1";
    static final int LEAST = Integer.MIN_VALUE;
    static final int GREATEST = Integer.MAX_VALUE;

    static final Pattern NAMES_A_BOUNDARY = Pattern.compile("\\d+ \\.\\.|-\\d+\\b|\\bNONE\\b|\\bNONE:|Refused|"
        + "NoSuchElementException: |empty|at most|at least|at first|too early|no room|none|nothing|Nothing|missing|"
        + "another|\\bothers\\b|not so many|\\b0:|999:|below 0|1000|likewise|neither|fewer|0 by 1|without|No RINGERS|"
        + "multiple of|or more|or less|by 0|as ints|As ints|MOST and 1|came since|lowest bits|more than|above");

    static final List<List<String>> quotes = new ArrayList<>();
    static int wrong = 0;
    static int asked = 0;
    static int sentences = 0;
    static int promise = 0;
    static String words = "";

    interface Call {
        long on(MustNotStop x);
    }

    public static void main(String[] args) throws Exception {
        for (int i = 0; i <= PROMISES; i++) {
            quotes.add(new ArrayList<>());
        }
        terms();
        newObject();
        texts();
        ringersAndTown();
        rules();
        ringerPersonLoud();
        setAndSheet();
        takeLeaveMend();
        minutesAndWatches();
        undo();
        howLong();
        rotas();
        doubts();
        laws();
        whoRang();
        sickness();
        councilAndUnion();
        years();
        kept();
        lastCall();
        document(Path.of("../shared/DOC.md"));
        System.out.println("BoundaryTest: " + sentences + " sentences, " + asked + " answers, " + wrong + " wrong");
        if (wrong > 0) {
            System.exit(1);
        }
    }

    // ---- helpers

    /** What follows is the test of these words of the document. */
    static void says(int of, String sentence) {
        promise = of;
        words = sentence;
        sentences++;
        quotes.get(of).add(sentence);
    }

    static void fail(String what) {
        wrong++;
        int line = 0;
        for (StackTraceElement e : new Throwable().getStackTrace()) {
            boolean helper = List.of("fail", "is", "row", "same", "throwsNone", "noRinger", "noPerson", "noRow", "below",
                "belowByText", "refused", "refusedText", "question", "document", "onRich").contains(e.getMethodName());
            if (!helper && line == 0 && !e.getMethodName().contains("$")) {
                line = e.getLineNumber();
            }
        }
        System.out.println("line " + line + ", promise " + promise + " \"" + words + "\": " + what);
    }

    static void is(long got, long due) {
        asked++;
        if (got != due) {
            fail("answered " + got + ", due is " + due);
        }
    }

    static void is(boolean got, boolean due) {
        is(got ? 1 : 0, due ? 1 : 0);
    }

    static void same(String got, String due) {
        asked++;
        if (!got.equals(due)) {
            fail("\n  is  " + got + "\n  due " + due);
        }
    }

    /** THE ROW is just these numbers. */
    static void row(MustNotStop x, long... due) {
        StringBuilder b = new StringBuilder();
        for (long each : due) {
            b.append(' ').append(each);
        }
        same(rowOf(x), due.length + ":" + b);
    }

    static void throwsNone(Call call, MustNotStop x) {
        asked++;
        try {
            fail("answered " + call.on(x) + ", due is NoSuchElementException");
        } catch (NoSuchElementException e) {
            return;
        }
    }

    static void noRinger(MustNotStop x, int ringer, int what) {
        throwsNone(y -> y.ringer(ringer, what), x);
    }

    static void noPerson(MustNotStop x, int person, int what) {
        throwsNone(y -> y.person(person, what), x);
    }

    static void noRow(MustNotStop x, int i) {
        throwsNone(y -> y.row(i), x);
    }

    static MustNotStop read(MustNotStop x, String text) {
        x.end(0);
        for (int i = 0; i < text.length(); i += 4) {
            int v = 0;
            for (int j = 0; j < 4; j++) {
                v = v << 8 | (i + j < text.length() ? text.charAt(i + j) : 0);
            }
            x.sign(v);
        }
        x.end(text.length());
        return x;
    }

    static MustNotStop bell(String ringers, String town, String rule) {
        MustNotStop x = new MustNotStop();
        read(x, ringers).ringers();
        read(x, town).town();
        read(x, rule).rule();
        return x;
    }

    static MustNotStop bell(String ringers, String rule) {
        return bell(ringers, "", rule);
    }

    /** One of RINGERS, at THE ROPE. */
    static MustNotStop rungBy(String line, String rule) {
        MustNotStop x = bell(line, rule);
        x.take(0);
        return x;
    }

    static MustNotStop town(String lines) {
        return bell("", lines, "");
    }

    static long loudBy(MustNotStop x, String rule) {
        is(read(x, rule).rule(), 0);
        return x.loud();
    }

    static int tired(MustNotStop x, int ringer) {
        return x.ringer(ringer, 2);
    }

    static void minutes(MustNotStop x, int n) {
        for (int left = n; left > 0; left -= 120) {
            x.minutes(Math.min(120, left));
        }
    }

    /** All that can be seen but for the ROW and THE TEXT. */
    static String seen(MustNotStop x) {
        StringBuilder b = new StringBuilder();
        for (int what = 0; what <= 14; what++) {
            b.append(x.count(what)).append(' ');
        }
        b.append("| ").append(x.loud());
        for (int i = 0; i < x.count(0); i++) {
            for (int what = 0; what <= 4; what++) {
                b.append(' ').append(x.ringer(i, what));
            }
        }
        for (int i = 0; i < x.count(1); i++) {
            for (int what = 0; what <= 2; what++) {
                b.append(' ').append(x.person(i, what));
            }
        }
        return b.append('\n').toString();
    }

    /** What is seen but for how many can be undone. */
    static String lasting(MustNotStop x) {
        return seen(x).replaceFirst(" \\d+ \\|", " |");
    }

    static String rowOf(MustNotStop x) {
        StringBuilder b = new StringBuilder();
        b.append(x.count(15)).append(':');
        for (int i = 0; i < x.count(15); i++) {
            b.append(' ').append(x.row(i));
        }
        return b.toString();
    }

    /** What is seen now, what was noted, what undo() and again() bring back; it uses the object up. */
    static String probe(MustNotStop x) {
        StringBuilder b = new StringBuilder(seen(x));
        b.append(x.rows());
        for (int shift = 0; shift <= 5; shift++) {
            b.append(' ').append(x.rang(shift));
        }
        b.append('\n');
        for (int i = 0; i < 20 && x.undo() >= 0; i++) {
            b.append(seen(x));
        }
        for (int i = 0; i <= 2; i++) {
            b.append(x.again(i)).append(' ').append(seen(x));
        }
        return b.toString();
    }

    /** An object with a bit of everything: 0 and 2 are kept, 9 can be undone, 2 noted, the ROW has 3 numbers, THE TEXT 4 signs. */
    static MustNotStop rich() {
        MustNotStop x = bell("35;17;94;62", "30;51;92", "s*9-t-w-f*2+r/9");
        x.set(0, 7);
        x.set(1, 2);
        x.set(2, 3);
        x.take(0);
        x.minutes(7);
        x.keep(0);
        x.take(2);
        x.minutes(9);
        x.leave(0);
        x.keep(2);
        x.mend(4);
        x.leave(2);
        x.minutes(4);
        x.take(3);
        x.noted(0, 5, 1);
        x.noted(3, 60, 0);
        x.years(7, 20);
        x.sign('5' << 24 | '0' << 16 | ';' << 8 | '6');
        return x;
    }

    /** On a rich one: it answers so, and nothing changes, the ROW neither. */
    static void refused(long due, Call call) {
        onRich(call, due, null, true);
    }

    /** On a rich one: it answers so, THE TEXT is empty, and else nothing changes. */
    static void refusedText(String text, long due, Call reader) {
        onRich(reader, due, text, true);
    }

    static void onRich(Call call, long due, String text, boolean rowStays) {
        MustNotStop x = rich();
        MustNotStop y = rich();
        if (text != null) {
            read(x, text);
        }
        is(call.on(x), due);
        is(x.count(16), text == null ? 4 : 0);
        if (rowStays) {
            same(rowOf(x), rowOf(y));
        }
        same(probe(x), probe(y));
    }

    /** On a rich one: nothing changes but the ROW. */
    static void question(Call call) {
        MustNotStop z = rich();
        onRich(call, call.on(z), null, false);
    }

    /** It answers so, which is below 0: the ROW stays, and nothing else changes either. */
    static void below(MustNotStop x, long due, Call call) {
        x.settle(7, 3);
        String rowBefore = rowOf(x);
        String before = seen(x);
        is(call.on(x), due);
        same(rowOf(x), rowBefore);
        same(seen(x), before);
    }

    static void belowByText(MustNotStop x, String text, long due, Call reader) {
        read(x, text);
        below(x, due, reader);
        is(x.count(16), 0);
    }

    // ---- the document itself

    /** Each quote stands in the document, and each boundary of the document in a quote. */
    static void document(Path path) throws Exception {
        String doc = Files.readString(path, StandardCharsets.UTF_8).replaceAll("```\\w*", " ").replaceAll("\\s+", " ");
        for (int of = 0; of <= PROMISES; of++) {
            promise = of;
            String section = section(doc, of);
            boolean[] quoted = new boolean[section.length()];
            for (String quote : quotes.get(of)) {
                words = quote;
                asked++;
                if (!section.contains(quote)) {
                    fail("the document doesn't say that");
                }
                for (int at = section.indexOf(quote); at >= 0; at = section.indexOf(quote, at + 1)) {
                    java.util.Arrays.fill(quoted, at, at + quote.length(), true);
                }
            }
            Matcher boundary = NAMES_A_BOUNDARY.matcher(section);
            while (boundary.find()) {
                words = section.substring(Math.max(0, boundary.start() - 30), Math.min(section.length(), boundary.end() + 30));
                asked++;
                if (!quoted[boundary.start()] || !quoted[boundary.end() - 1]) {
                    fail("a boundary without a test: " + boundary.group());
                }
            }
        }
    }

    static String section(String doc, int of) {
        String head = of == TERMS ? " ## Terms " : " ## Promise " + of + ": ";
        String next = of == PROMISES ? " ## Not promised " : " ## Promise " + (of + 1) + ": ";
        return doc.substring(doc.indexOf(head) + head.length(), doc.indexOf(next));
    }

    // ---- Terms

    static void terms() {
        termsRingers();
        termsBell();
        termsRuleOrder();
        termsRuleThings();
        termsLoud();
        termsRungOrNot();
        termsTiredAndPaid();
        termsTown();
        termsRow();
        termsRefused();
        termsQuestions();
        termsGroups();
    }

    static void termsRingers() {
        says(TERMS, "RINGERS 0 .. (at most 8)");
        MustNotStop x = new MustNotStop();
        is(x.count(0), 0);
        is(read(x, "11;22;33;44;55;66;77").ringers(), 7);
        is(read(x, "88").ringers(), 1);
        is(read(x, "99").ringers(), -1);
        is(x.count(0), 8);
        is(x.ringer(7, 0), 8);
        noRinger(x, 8, 0);

        says(TERMS, "STRENGTH 1 .. 9, FEE 0 .. 9");
        x = bell("10;99", "");
        is(x.ringer(0, 0), 1);
        is(x.ringer(0, 1), 0);
        is(x.ringer(1, 0), 9);
        is(x.ringer(1, 1), 9);

        says(TERMS, "TIRED 0 .. 99 (at first 0)");
        x = bell("35;17", "5");
        is(tired(x, 0) + tired(x, 1), 0);
        x.take(0);
        x.minutes(49);
        is(tired(x, 0), 98);
        x.minutes(1);
        is(tired(x, 0), 99);
        x.minutes(1);
        is(tired(x, 0), 99);
        x.leave(0);
        x.minutes(98);
        is(tired(x, 0), 1);
        x.minutes(1);
        is(tired(x, 0), 0);
        x.minutes(1);
        is(tired(x, 0), 0);

        says(TERMS, "at THE ROPE or not (3 at most are)");
        x = bell("11;22;33;44", "");
        is(x.take(3), 1);
        is(x.take(1), 2);
        is(x.take(0), 3);
        is(x.take(2), -3);
        is(x.count(2), 11);

        says(TERMS, "They are told by a text of at most 23 signs: LINES with ; between, each one more: two digits (STRENGTH, not 0; FEE).");
        is(EIGHT.length(), 23);
        is(read(new MustNotStop(), EIGHT).ringers(), 8);
        is(read(new MustNotStop(), EIGHT + ";").ringers(), -24);
        is(read(new MustNotStop(), "05").ringers(), -1);
        is(read(new MustNotStop(), "50").ringers(), 1);
    }

    static void termsBell() {
        says(TERMS, "WEIGHT 1 .. 30 (at first 5)");
        MustNotStop x = new MustNotStop();
        is(x.count(10), 5);
        is(x.set(0, 1), 5);
        is(x.set(0, 30), 1);
        is(x.set(0, 0), -1);
        is(x.set(0, 31), -1);
        is(x.count(10), 30);

        says(TERMS, "FROST 0 .. 9 (at first 0)");
        is(x.count(11), 0);
        is(x.set(1, 9), 0);
        is(x.set(1, 10), -1);
        is(x.set(1, 0), 9);
        is(x.set(1, -1), -1);
        is(x.count(11), 0);

        says(TERMS, "STRANDS 0 .. 99 (at first 50)");
        is(x.count(3), 50);
        is(x.mend(48), 98);
        is(x.mend(2), 99);
        x = rungBy("91", "1");
        minutes(x, 499);
        is(x.count(3), 1);
        x.minutes(1);
        is(x.count(3), 0);
        minutes(x, 30);
        is(x.count(3), 0);

        says(TERMS, "MOST 0 .. 9 (at first 2)");
        x = new MustNotStop();
        is(x.count(12), 2);
        is(x.set(2, 0), 2);
        is(x.set(2, -1), -1);
        is(x.set(2, 9), 0);
        is(x.set(2, 10), -1);
        is(x.count(12), 9);

        says(TERMS, "NOW (minutes), RUNG (minutes in which it was rung), SILENT (minutes one behind the other in which it was not, till now), STOPS, PAID: at first 0.");
        x = bell("95", "(m>3)*(m<6)");
        for (int what = 4; what <= 8; what++) {
            is(x.count(what), 0);
        }
        x.take(0);
        x.minutes(4);
        is(x.count(6), 4);
        x.minutes(2);
        is(x.count(6), 0);
        is(x.count(5), 2);
        x.minutes(1);
        is(x.count(6), 1);
        is(x.count(4), 7);
        is(x.count(7), 1);
        is(x.count(8), 35);
    }

    /** s 3, t 4, n 1, w 5, f 0, r 50, m 2. */
    static MustNotStop plain() {
        MustNotStop x = rungBy("35", "");
        x.minutes(2);
        return x;
    }

    static void termsRuleOrder() {
        says(TERMS, "THE RULE is a text of at most 40 signs (at first none: s*10-t-w*3-f).");
        MustNotStop x = new MustNotStop();
        read(x, "35").ringers();
        is(x.ringer(0, 4), 15);
        x.take(0);
        is(x.minutes(9), 8);
        is(x.law(), 0);
        x = plain();
        is(x.loud(), 11);
        x.set(0, 1);
        is(x.loud(), 23);
        x.set(1, 9);
        is(x.loud(), 14);
        x.set(0, 5);
        x.set(1, 0);
        is(FORTY.length(), 40);
        is(loudBy(x, FORTY), 29);
        is(read(x, FORTY + "0").rule(), -41);
        is(x.loud(), 29);

        says(TERMS, "< > = bind least (two; 1 or 0; not one behind the other)");
        x = plain();
        is(loudBy(x, "1+1<3"), 1);
        is(loudBy(x, "3<1+1"), 0);
        is(loudBy(x, "2*3=6"), 1);
        is(loudBy(x, "-1<0"), 1);
        is(loudBy(x, "1<2"), 1);
        is(loudBy(x, "2<2"), 0);
        is(loudBy(x, "2>2"), 0);
        is(loudBy(x, "3>2"), 1);
        is(loudBy(x, "2=2"), 1);
        is(loudBy(x, "2=3"), 0);
        is(loudBy(x, "(1<2)<3"), 1);
        is(loudBy(x, "3>(2>1)"), 1);
        is(loudBy(x, "(1<2)+(2<3)"), 2);
        is(read(x, "1<2<3").rule(), -4);
        is(read(x, "1=1>0").rule(), -4);
        is(read(x, "1<2+3>4").rule(), -6);
        is(read(x, "(1<2=1)").rule(), -5);
        is(read(x, "1<(2<3)=1").rule(), -8);
        is(x.loud(), 2);

        says(TERMS, "then + - (from the left)");
        is(loudBy(x, "9-4-3"), 2);
        is(loudBy(x, "9-4+3"), 8);
        is(loudBy(x, "2+3*4"), 14);

        says(TERMS, "then * / (from the left; by 0: 0; cut to 0)");
        is(loudBy(x, "8/4*2"), 4);
        is(loudBy(x, "64/4/2"), 8);
        is(loudBy(x, "9/0"), 0);
        is(loudBy(x, "9/f+2"), 2);
        is(loudBy(x, "0/0+3"), 3);
        is(loudBy(x, "-9/(s-3)-1"), -1);
        is(loudBy(x, "9+(1-8)/2"), 6);
        is(loudBy(x, "9+7/-2"), 6);
        is(loudBy(x, "9+-7/-2"), 12);
        is(loudBy(x, "2/3"), 0);
        is(loudBy(x, "-2/3"), 0);

        says(TERMS, "then - ahead of a thing (any many)");
        is(loudBy(x, "-7"), -7);
        is(loudBy(x, "--7"), 7);
        is(loudBy(x, "9--2"), 11);
        is(loudBy(x, "3*-2"), -6);
        is(loudBy(x, "-(2<3)"), -1);
        is(loudBy(x, "-".repeat(39) + "5"), -5);
        is(loudBy(x, "-".repeat(38) + "5"), 5);
        is(loudBy(x, "2" + "-".repeat(38) + "5"), 7);
        is(read(x, "-").rule(), -2);
    }

    static void termsRuleThings() {
        says(TERMS, "a NUMBER of 1 to 3 digits");
        MustNotStop x = plain();
        is(loudBy(x, "7"), 7);
        is(loudBy(x, "42"), 42);
        is(loudBy(x, "999"), 999);
        is(loudBy(x, "000"), 0);
        is(loudBy(x, "007"), 7);
        is(read(x, "1000").rule(), -4);
        is(read(x, "0000").rule(), -4);
        is(read(x, "1+1000").rule(), -6);

        says(TERMS, "an EXPRESSION in ( ) (at most 4 in one another)");
        is(loudBy(x, "((((7))))"), 7);
        is(loudBy(x, "((((7))))+((((2))))"), 9);
        is(loudBy(x, "(((3+(2))))"), 5);
        is(read(x, "(((((7)))))").rule(), -5);
        is(read(x, "((((1+(2)))))").rule(), -7);
        is(read(x, "()").rule(), -2);
        is(x.loud(), 5);

        says(TERMS, "m NOW by 60 (rest)");
        x = rungBy("91", "m");
        is(x.loud(), 0);
        x.minutes(59);
        is(x.loud(), 59);
        x.minutes(1);
        is(x.loud(), 0);
        x.minutes(1);
        is(x.loud(), 1);
        x.minutes(58);
        is(x.loud(), 59);
        x.minutes(1);
        is(x.loud(), 0);

        says(TERMS, "As ints");
        is(loudBy(x, "999*999*999*999"), -426416671);
        is(x.minutes(1), 0);
        is(loudBy(x, "512*512*512*16"), LEAST);
        is(loudBy(x, "512*512*512*16-1"), GREATEST);
        is(x.minutes(1), 1);
        is(loudBy(x, "512*512*512*16/-1"), LEAST);
        is(loudBy(x, "-(512*512*512*16)"), LEAST);
        is(loudBy(x, "512*512*512*16-1>0"), 1);
    }

    static void termsLoud() {
        says(TERMS, "of those at THE ROPE: s STRENGTH together, t TIRED together, n how many they are");
        MustNotStop x = bell("99;91;92;13", "s");
        x.sheet(2, 4, 10, 10);
        is(loudBy(x, "n+1"), 0);
        x.take(1);
        is(loudBy(x, "s*100+t*10+n"), 900 + 200 + 1);
        x.take(3);
        x.take(0);
        is(loudBy(x, "s*100+t*10+n"), 1900 + 700 + 3);

        says(TERMS, "LOUD (0 if nobody is at THE ROPE, or STRANDS is 0).");
        x = bell("91;11", "7");
        is(x.loud(), 0);
        x.take(0);
        is(x.loud(), 7);
        minutes(x, 499);
        is(x.count(3), 1);
        is(x.loud(), 7);
        x.minutes(1);
        is(x.count(3), 0);
        is(x.loud(), 0);
        is(x.ringer(1, 4), 0);
        is(x.mend(1), 1);
        is(x.loud(), 7);
        x.leave(0);
        is(x.loud(), 0);
    }

    static void termsRungOrNot() {
        says(TERMS, "If it is above 0: RUNG is 1 more, SILENT 0");
        is(rungBy("91", "0").minutes(1), 0);
        is(rungBy("91", "1").minutes(1), 1);
        is(rungBy("91", "-1").minutes(1), 0);

        says(TERMS, "if RUNG is a multiple of 10 then, STRANDS is 1 less (0 at least).");
        MustNotStop x = bell("91", "5");
        x.minutes(3);
        is(x.count(3), 50);
        x.take(0);
        x.minutes(9);
        is(x.count(3), 50);
        x.minutes(1);
        is(x.count(3), 49);
        x.leave(0);
        x.minutes(9);
        is(x.count(3), 49);
        x.take(0);
        x.minutes(9);
        is(x.count(3), 49);
        x.minutes(1);
        is(x.count(3), 48);
        minutes(x, 480);
        is(x.count(5), 500);
        is(x.count(3), 0);
        minutes(x, 20);
        is(x.count(5), 500);
        is(x.count(3), 0);

        says(TERMS, "Else SILENT is 1 more; if it is MOST and 1 then, STOPS is 1 more.");
        for (int most = 0; most <= 9; most++) {
            x = new MustNotStop();
            x.set(2, most);
            x.minutes(most);
            is(x.count(7), 0);
            x.minutes(1);
            is(x.count(7), 1);
            x.minutes(20);
            is(x.count(7), 1);
        }
        x = new MustNotStop();
        x.minutes(3);
        is(x.count(7), 1);
        x.set(2, 4);
        x.minutes(1);
        is(x.count(7), 1);
        x.minutes(1);
        is(x.count(7), 2);
        x.set(2, 0);
        x.minutes(9);
        is(x.count(7), 2);
    }

    static void termsTiredAndPaid() {
        says(TERMS, "Each at THE ROPE is 2 more TIRED (99 at most), each other one 1 less (0 at least).");
        MustNotStop x = bell("91;91", "5");
        x.take(0);
        x.sheet(2, 2, 97, -96);
        x.minutes(1);
        is(tired(x, 0), 99);
        is(tired(x, 1), 0);
        x.minutes(1);
        is(tired(x, 0), 99);
        is(tired(x, 1), 0);
        x.sheet(2, 2, 98, -96);
        x.minutes(1);
        is(tired(x, 0), 99);
        is(tired(x, 1), 1);
        x = rungBy("91", "0");
        x.minutes(2);
        is(tired(x, 0), 4);

        says(TERMS, "PAID is FEES of those at THE ROPE more.");
        x = bell("99;97;90;95", "0");
        x.minutes(1);
        is(x.count(8), 0);
        x.take(0);
        x.take(1);
        x.take(2);
        x.minutes(2);
        is(x.count(8), 32);
    }

    static void termsTown() {
        says(TERMS, "TOWNSPEOPLE 0 .. (at most 8)");
        MustNotStop x = new MustNotStop();
        is(x.count(1), 0);
        is(read(x, EIGHT).town(), 8);
        is(read(x, "99").town(), -1);
        is(x.count(1), 8);
        is(x.person(7, 1), 8);
        noPerson(x, 8, 0);

        says(TERMS, "EAR 1 .. 9, NEED 0 .. 9; each doubts or not (at first not).");
        x = town("10;99");
        is(x.person(0, 0), 1);
        is(x.person(0, 1), 0);
        is(x.person(1, 0), 9);
        is(x.person(1, 1), 9);
        is(x.count(9), 0);
        is(read(x, "01").town(), -1);

        says(TERMS, "They are told by a text of at most 23 signs: LINES with ; between, each one more: two digits (EAR, not 0; NEED).");
        is(read(new MustNotStop(), EIGHT).town(), 8);
        is(read(new MustNotStop(), EIGHT + ";").town(), -24);
        is(read(new MustNotStop(), "05").town(), -1);

        says(TERMS, "each doubts from then on, if SILENT is its EAR or more");
        x = bell("91", "30;90;10", "5");
        x.minutes(2);
        is(x.count(9), 4);
        x.minutes(1);
        is(x.count(9), 5);
        x.minutes(5);
        is(x.count(9), 5);
        x.minutes(1);
        is(x.count(9), 7);
        read(x, "50;90").town();
        is(x.count(9), 7);
        x.minutes(1);
        is(x.count(9), 31);
        read(x, "10").town();
        x.take(0);
        x.minutes(5);
        is(x.count(9), 31);

        says(TERMS, "or if NEED is not 0 and NEED or more others doubted ahead of that MINUTE.");
        x = bell("91", "10;90;91;92;93;99", "5");
        x.minutes(1);
        is(x.count(9), 1);
        x.take(0);
        x.minutes(1);
        is(x.count(9), 5);
        x.minutes(1);
        is(x.count(9), 13);
        x.minutes(1);
        is(x.count(9), 29);
        x.minutes(9);
        is(x.count(9), 29);
    }

    static void termsRow() {
        says(TERMS, "Rows are compared from the first number on.");
        // 0 and 3 are at THE ROPE; (0, 2) and (3, 1) make STRENGTH 5.
        MustNotStop x = bell("40;10;30;20", "s=5");
        x.take(0);
        x.take(3);
        is(x.swap(), 500);
        row(x, 0, 2);

        says(TERMS, "Fractions are told in lowest terms, upper and lower number (0 by 1).");
        x = bell("90;80", "5");
        x.sick(5);
        row(x, 3, 4);
        x.sick(10);
        row(x, 0, 1);
        x.sick(0);
        row(x, 1, 1);
        read(x, "0").rule();
        x.sick(5);
        row(x, 0, 1);
    }

    static void termsRefused() {
        says(TERMS, "Refused calls answer NONE, or false, and change nothing but THE TEXT, which a call that reads it empties.");
        is(MustNotStop.NONE, -1);
        refusedTells();
        refusedDeeds();
        refusedAsked();
        refusedText("", 0, x -> x.ringers());
        refusedText("", 0, x -> x.town());
        refusedText("0", -1, x -> x.ringers());
        refusedText("55;", -4, x -> x.ringers());
        refusedText("55;55;55;55;55", -13, x -> x.ringers());
        refusedText("55;5x", -5, x -> x.town());
        refusedText("11;22;33;44;55;66", -16, x -> x.town());
        refusedText("s+", -3, x -> x.rule());
        refusedText(FORTY + "1", -41, x -> x.rule());
        refusedText("t0;", -4, x -> x.watch());
        refusedText("s+", -10002, x -> x.law());

        says(TERMS, "The ROW stays with each answer below 0 (MINUTES that law() tells are none such).");
        MustNotStop x = bell("35", "");
        x.settle(5, 2);
        row(x, 4);
        is(x.team(99), -2);
        row(x, 4);
        is(x.team(121), -1);
        row(x, 4);
        is(x.minutes(121), -1);
        row(x, 4);
        is(read(x, "x").law(), -10000);
        row(x, 4);
        x.take(0);
        is(read(x, "0").law(), 3 - 11);
        row(x, 3, 11);
        is(x.loud(), 15);
        is(read(x, "s*3-t").law(), 8 - 11);
        row(x, 8, 11);
    }

    static void refusedTells() {
        refused(0, x -> x.end(5) ? 1 : 0);
        refused(0, x -> x.end(-1) ? 1 : 0);
        int[][] sets = {{0, 0}, {0, 31}, {1, -1}, {1, 10}, {2, -1}, {2, 10}, {3, 1}, {-1, 1}};
        for (int[] s : sets) {
            refused(-1, x -> x.set(s[0], s[1]));
        }
        refused(-1, x -> x.sheet(4, 1, 5, 5));
        refused(-1, x -> x.sheet(-1, 1, 5, 5));
        refused(-1, x -> x.sheet(2, 9, 5, 5));
        refused(-1, x -> x.sheet(3, 9, 5, 5));
        refused(-2, x -> x.sheet(2, -1, 5, 5));
        refused(0, x -> x.keep(-1) ? 1 : 0);
        refused(0, x -> x.keep(3) ? 1 : 0);
        refused(0, x -> x.again(-1) ? 1 : 0);
        refused(0, x -> x.again(1) ? 1 : 0);
        refused(0, x -> x.again(3) ? 1 : 0);
        int[][] notes = {{-1, 0, 1}, {6, 0, 1}, {0, -1000, 1}, {0, 10000, 1}, {0, 0, -1}, {0, 0, 2}};
        for (int[] n : notes) {
            refused(-1, x -> x.noted(n[0], n[1], n[2]));
        }
    }

    static void refusedDeeds() {
        refused(-1, x -> x.take(-1));
        refused(-1, x -> x.take(4));
        refused(-2, x -> x.take(3));
        refused(-1, x -> x.leave(-1));
        refused(-1, x -> x.leave(4));
        refused(-2, x -> x.leave(0));
        refused(-1, x -> x.mend(0));
        refused(-1, x -> x.mend(100));
        refused(-1, x -> x.minutes(-1));
        refused(-1, x -> x.minutes(121));
    }

    static void refusedAsked() {
        refused(-1, x -> x.team(0));
        refused(-1, x -> x.team(121));
        refused(-1, x -> x.strongest(0));
        refused(-1, x -> x.strongest(4));
        refused(-1, x -> x.silence(0));
        refused(-1, x -> x.silence(1000));
        refused(-1, x -> x.crowd(-1));
        refused(-1, x -> x.crowd(1000));
        int[][] shifts = {{0, 1}, {5, 1}, {1, 0}, {1, 21}};
        for (int[] s : shifts) {
            refused(-1, x -> x.rota(s[0], s[1]));
            refused(-1, x -> x.cheapest(s[0], s[1]));
        }
        int[][] rests = {{-1, 1}, {4, 1}, {0, 0}, {0, 61}};
        for (int[] r : rests) {
            refused(-1, x -> x.ready(r[0], r[1]));
        }
        refused(-1, x -> x.longest(0));
        refused(-1, x -> x.longest(4));
        refused(-1, x -> x.change(-1));
        refused(-1, x -> x.change(31));
        refused(-1, x -> x.doubts(-1));
        refused(-1, x -> x.doubts(10));
        refused(-1, x -> x.frozen(-1));
        refused(-1, x -> x.frozen(10));
        refused(-1, x -> x.heaviest(0));
        refused(-1, x -> x.heaviest(121));
        refused(-1, x -> x.rang(-1));
        refused(-1, x -> x.rang(6));
        refused(-1, x -> x.sick(-1));
        refused(-1, x -> x.sick(11));
        refused(-1, x -> x.risk(-1));
        refused(-1, x -> x.risk(101));
        int[][] parts = {{-1, 1}, {21, 1}, {5, 0}, {5, 21}};
        for (int[] p : parts) {
            refused(-1, x -> x.settle(p[0], p[1]));
        }
        refused(-1, x -> x.strike(-1));
        refused(-1, x -> x.strike(100));
        refused(-1, x -> x.years(1, 0));
        refused(-1, x -> x.years(1, 301));
    }

    static void termsQuestions() {
        says(TERMS, "Questions change nothing.");
        Call[] calls = {x -> x.loud(), x -> x.ringer(0, 4), x -> x.person(0, 2), x -> x.lasts(), x -> x.hush(),
            x -> x.team(5), x -> x.strongest(2), x -> x.silence(99), x -> x.crowd(9), x -> x.swap(), x -> x.ready(3, 3),
            x -> x.rota(2, 2), x -> x.cheapest(2, 2), x -> x.longest(2), x -> x.change(2), x -> x.doubts(3),
            x -> x.frees(), x -> x.persuade(), x -> x.firm(), x -> x.frozen(9), x -> x.heaviest(3), x -> x.rows(),
            x -> x.rang(0), x -> x.ask(), x -> x.sick(3), x -> x.risk(30), x -> x.settle(9, 3), x -> x.strike(4),
            x -> x.years(1, 99), x -> x.count(3), x -> x.row(0)};
        for (Call call : calls) {
            question(call);
        }
        MustNotStop x = rich();
        read(x, "s").law();
        is(x.count(16), 0);
        same(probe(x), probe(rich()));
    }

    static void termsGroups() {
        says(TERMS, "rotas (n shifts, 1 .. 4, of k MINUTES, 1 .. 20, one behind the other from now on: in each one of RINGERS is at THE ROPE alone, the same one again, too; IT must not STOP in all of these)");
        MustNotStop x = bell("11;11;90", "(n=1)*(s>1)");
        x.take(0);
        x.take(1);
        is(x.rota(1, 1), 1);
        row(x, 0);
        is(x.rota(4, 20), 1);
        row(x, 2, 2, 2, 2);
        x.set(2, 0);
        read(x, "(n=1)*(s>1)*(m<49)").rule();
        is(x.rota(3, 16), 1);
        is(x.rota(3, 17), -2);
        is(x.rota(0, 1), -1);
        is(x.rota(5, 1), -1);
        is(x.rota(1, 0), -1);
        is(x.rota(1, 21), -1);

        rotasFromNowOn();
        says(TERMS, "doubts (who doubts now does in the end; then, again and again, whoever has NEED or more others that do, NEED not being 0)");
        x = bell("91", "10;93;91;92;95;90", "5");
        x.minutes(1);
        is(x.count(9), 1);
        is(x.doubts(0), 15);
        row(x, 4, 0);
        is(x.doubts(1), 15);
        row(x, 4, 1);

        says(TERMS, "who rang (shifts 0 .. 5 of some night; in each one of RINGERS alone, none in two shifts one behind the other; what it counts is LOUD of it, not TIRED, by all else as it is now)");
        x = bell("50;60", "s-t");
        x.sheet(2, 2, 50, 0);
        is(x.rows(), 2);
        row(x, 0, 1, 0, 1, 0, 1);
        is(x.noted(0, 6, 1), 1);
        is(x.noted(5, 6, 0), 2);
        is(x.noted(6, 6, 0), -1);
        is(x.noted(-1, 6, 0), -1);
        is(x.rows(), 1);
        row(x, 1, 0, 1, 0, 1, 0);
        is(x.noted(5, 6, 1), 3);
        is(x.rows(), 0);
        x.forget();
        x.noted(0, 5, 1);
        x.noted(1, 5, 1);
        is(x.rows(), 2);
        x.take(0);
        x.minutes(11);
        x.set(0, 9);
        x.set(1, 8);
        x.mend(3);
        x.forget();
        read(x, "m*100+r+w*f").rule();
        x.noted(0, 1100 + 53 + 72, 1);
        x.noted(0, 1100 + 53 + 73, 0);
        is(x.rows(), 2);
        x.minutes(1);
        is(x.rows(), 0);
    }

    static void rotasFromNowOn() {
        MustNotStop x = bell("20;30;40", "s*2-t");
        x.set(2, 0);
        x.take(0);
        x.take(1);
        x.minutes(1);
        x.sheet(2, 3, 4, 1);
        is(x.rota(1, 1), 1);
        row(x, 1);
        is(x.rota(2, 1), 2);
        row(x, 1, 0);
        x = bell("91;91", "m>2");
        x.minutes(1);
        is(x.rota(1, 1), 1);
        below(x, -2, y -> y.rota(1, 2));
        x.minutes(1);
        below(x, -2, y -> y.rota(1, 1));
        below(x, -2, y -> y.cheapest(1, 1));
        below(x, -2, y -> y.longest(1));
        x.minutes(1);
        is(x.count(7), 1);
        is(x.rota(1, 20), 1);
        read(x, "0").rule();
        is(x.rota(4, 20), 1);
        row(x, 0, 0, 0, 0);
    }

    // ---- promises 1 to 11: the object, ringers, townspeople

    static void newObject() {
        says(1, "No RINGERS, no TOWNSPEOPLE.");
        MustNotStop x = new MustNotStop();
        is(x.count(0), 0);
        is(x.count(1), 0);
        noRinger(x, 0, 0);
        noPerson(x, 0, 0);
        row(x);
        is(x.count(16), 0);
        is(x.undo(), -1);
        is(x.again(0), false);
    }

    static void texts() {
        says(2, "Four signs come behind THE TEXT, of v the highest byte first: how many it has.");
        MustNotStop x = new MustNotStop();
        is(x.sign('3' << 24 | '5' << 16 | ';' << 8 | '1'), 4);
        is(x.sign('7' << 24 | ';' << 16 | '9' << 8 | '4'), 8);
        is(x.ringers(), 3);
        is(x.ringer(0, 0) * 10 + x.ringer(0, 1), 35);
        is(x.ringer(2, 0) * 10 + x.ringer(2, 1), 94);
        is(x.sign(0), 4);
        is(x.ringers(), -1);
        // The highest byte is 0x80 and '5': no '5', nor below 0.
        is(x.sign(LEAST | '5' << 24 | '5' << 16), 4);
        is(x.ringers(), -1);
        is(x.sign('5' << 24 | '5' << 16 | 0x80 << 8 | 0xff), 4);
        is(x.ringers(), -3);

        says(2, "Refused: there would be more than 80.");
        for (int i = 1; i <= 19; i++) {
            is(x.sign('5' << 24), 4 * i);
        }
        is(x.sign(0), 80);
        is(x.sign(0), -1);
        is(x.count(16), 80);
        for (int n = 79; n >= 77; n--) {
            is(x.end(n), true);
            below(x, -1, y -> y.sign(0));
            is(x.count(16), n);
        }
        is(x.end(76), true);
        is(x.sign(0), 80);

        says(3, "THE TEXT has its first n signs alone: true");
        x = read(new MustNotStop(), "55;66;7");
        is(x.end(7), true);
        is(x.count(16), 7);
        is(x.end(5), true);
        is(x.count(16), 5);
        is(x.ringers(), 2);
        is(x.end(0), true);
        x.sign('5' << 24);
        is(x.end(0), true);
        is(x.count(16), 0);

        says(3, "false if it has not so many, or n is below 0.");
        is(x.end(1), false);
        is(x.end(-1), false);
        x.sign('5' << 24 | '6' << 16 | ';' << 8 | '7');
        is(x.end(5), false);
        is(x.end(80), false);
        is(x.end(81), false);
        is(x.end(GREATEST), false);
        is(x.end(-1), false);
        is(x.end(LEAST), false);
        is(x.count(16), 4);
        is(x.end(2), true);
        is(x.end(4), false);
        is(x.ringers(), 1);
        is(x.count(0), 3);
        is(x.ringer(2, 1), 6);
    }

    static void ringersAndTown() {
        ringersText();
        townText();
    }

    static void ringersText() {
        says(4, "THE TEXT tells of RINGERS (an empty one: nothing): how many LINES.");
        MustNotStop x = bell("35;17;94", "");
        x.take(0);
        x.keep(0);
        x.settle(7, 3);
        is(x.ringers(), 0);
        is(x.count(0), 3);
        is(x.count(14), 1);
        row(x, 1);
        is(x.again(0), true);
        is(read(x, "61;62").ringers(), 2);
        is(x.count(0), 5);
        is(x.ringer(3, 1), 1);
        is(tired(x, 4), 0);
        is(x.count(16), 0);

        says(4, "-1 - p: the sign at p can't stand there");
        String[] texts = {"0", "05", ";", "x", "5x", "5;", "555", "55,55", "55;05", "55;5x", "55;;", "55 ", "\0", "55\u00ff",
            "/5", ":5", "5/", "5:"};
        int[] at = {0, 0, 0, 0, 1, 1, 2, 2, 3, 4, 3, 2, 0, 2, 0, 0, 1, 1};
        for (int i = 0; i < texts.length; i++) {
            belowByText(bell("35", ""), texts[i], -1 - at[i], y -> y.ringers());
        }

        says(4, "its end, if it ends too early");
        belowByText(bell("35", ""), "5", -2, y -> y.ringers());
        belowByText(bell("35", ""), "55;", -4, y -> y.ringers());
        belowByText(bell("35", ""), "55;6", -5, y -> y.ringers());
        belowByText(new MustNotStop(), EIGHT.substring(0, 22), -23, y -> y.ringers());
        belowByText(new MustNotStop(), EIGHT.substring(0, 21), -22, y -> y.ringers());

        says(4, "the first sign of a LINE for which there is no room");
        x = bell("11;22;33;44;55;66;77", "");
        belowByText(x, "81;82", -4, y -> y.ringers());
        belowByText(x, "81;8", -4, y -> y.ringers());
        belowByText(x, "81;82;83", -4, y -> y.ringers());
        belowByText(x, "8x;82", -2, y -> y.ringers());
        is(read(x, "81").ringers(), 1);
        belowByText(x, "8", -1, y -> y.ringers());
        belowByText(x, "81", -1, y -> y.ringers());
        is(x.ringers(), 0);
        belowByText(bell("11", ""), EIGHT, -22, y -> y.ringers());
        belowByText(bell("11", ""), EIGHT + ";99", -22, y -> y.ringers());

        says(4, "23, if it has more and the first 23 could go on or end");
        belowByText(new MustNotStop(), EIGHT + ";", -24, y -> y.ringers());
        belowByText(new MustNotStop(), EIGHT + "x", -24, y -> y.ringers());
        belowByText(new MustNotStop(), EIGHT + ";" + EIGHT, -24, y -> y.ringers());
        belowByText(new MustNotStop(), "55;".repeat(26) + "55", -24, y -> y.ringers());
        belowByText(new MustNotStop(), "11;22;33;44;55;66;77;8x;", -23, y -> y.ringers());
        belowByText(new MustNotStop(), "0" + EIGHT, -1, y -> y.ringers());

        says(4, "Nothing of it comes, if a LINE can't.");
        x = bell("35", "");
        x.take(0);
        x.keep(0);
        is(read(x, "61;62;03").ringers(), -7);
        is(x.count(0), 1);
        noRinger(x, 1, 0);
        is(x.count(14), 1);
        is(x.again(0), true);
        x = bell("11;22;33;44;55;66;77", "");
        is(read(x, "81;82").ringers(), -4);
        is(x.count(0), 7);
    }

    static void townText() {
        says(5, "THE TEXT tells of TOWNSPEOPLE (an empty one: nothing): how many LINES.");
        MustNotStop x = town("35;17;94");
        x.mend(1);
        x.keep(0);
        is(x.town(), 0);
        is(x.count(1), 3);
        is(x.count(14), 1);
        is(x.again(0), true);
        is(read(x, "61;62").town(), 2);
        is(x.count(1), 5);
        is(x.person(3, 1), 1);
        is(x.count(0), 0);
        is(x.count(16), 0);

        says(5, "-1 - p: likewise.");
        String[] texts = {"0", "05", ";", "5x", "5", "555", "55;", "55;0", "55;05", "55;5", "55;5;", EIGHT + ";", EIGHT + "x",
            "11;22;33;44;55;66;77;8x;"};
        int[] at = {0, 0, 0, 1, 1, 2, 3, 3, 3, 4, 4, 23, 23, 22};
        for (int i = 0; i < texts.length; i++) {
            belowByText(bell("35", "", ""), texts[i], -1 - at[i], y -> y.town());
        }
        x = town("11;22;33;44;55;66;77");
        belowByText(x, "81;82", -4, y -> y.town());
        belowByText(x, "81;8", -4, y -> y.town());
        is(x.count(1), 7);
        is(read(x, "81").town(), 1);
        belowByText(x, "81", -1, y -> y.town());
        is(read(x, "11").ringers(), 1);
    }

    static void rules() {
        says(6, "THE TEXT is THE RULE (an empty one: none): 0.");
        MustNotStop x = rungBy("35", "7");
        is(x.loud(), 7);
        is(x.rule(), 0);
        is(x.loud(), 15);
        is(read(x, "s").rule(), 0);
        is(x.count(16), 0);
        is(x.loud(), 3);

        says(6, "-1 - p: the sign at p can't stand there");
        String[] texts = {"x", "S", "+", "*1", ")", ";", " s", "s s", "2s", "s2", "ss", "s(", "(s)(", "(s)2", "(s)s", "s)", "1+)",
            "1+*2", "s--", "1=<2", "1<=2", "\0", "s\u00ff", "(-)", "2~3", "~3",
            "(1)2", "((12))3", "(1)s", ":", "1:", "/", "s+s)", "(s)+s)", "-s)"};
        int[] at = {0, 0, 0, 0, 0, 0, 0, 1, 1, 1, 1, 1, 3, 3, 3, 1, 2, 2, 3, 2, 2, 0, 1, 2, 1, 0, 3, 6, 3, 0, 1, 0, 3, 5, 2};
        for (int i = 0; i < texts.length; i++) {
            belowByText(rungBy("35", "7"), texts[i], -1 - at[i], y -> y.rule());
        }

        says(6, "its end, if it ends too early");
        String[] early = {"s+", "s<", "-", "(", "(s", "((s)", "s*(", "1+(2*3", "--"};
        for (String each : early) {
            belowByText(rungBy("35", "7"), each, -1 - each.length(), y -> y.rule());
        }
        belowByText(rungBy("35", "7"), FORTY.substring(0, 38), -39, y -> y.rule());
        belowByText(rungBy("35", "7"), "--" + FORTY.substring(0, 38), -41, y -> y.rule());
        belowByText(rungBy("35", "7"), "(" + FORTY.substring(0, 39), -41, y -> y.rule());

        says(6, "40, if it has more and the first 40 could go on or end");
        belowByText(rungBy("35", "7"), FORTY + "1", -41, y -> y.rule());
        belowByText(rungBy("35", "7"), FORTY + "x", -41, y -> y.rule());
        belowByText(rungBy("35", "7"), FORTY + "+1", -41, y -> y.rule());
        belowByText(rungBy("35", "7"), FORTY + FORTY, -41, y -> y.rule());
        belowByText(rungBy("35", "7"), "-".repeat(41), -41, y -> y.rule());
        belowByText(rungBy("35", "7"), "-".repeat(80), -41, y -> y.rule());
        belowByText(rungBy("35", "7"), "-".repeat(39) + "x1", -40, y -> y.rule());
        belowByText(rungBy("35", "7"), "(" + FORTY, -41, y -> y.rule());
        belowByText(rungBy("35", "7"), "1000" + FORTY, -4, y -> y.rule());
        is(read(rungBy("35", "7"), FORTY).rule(), 0);
    }

    static void ringerPersonLoud() {
        says(7, "Of one of RINGERS, what 0: STRENGTH, 1: FEE, 2: TIRED, 3: 1 at THE ROPE, 4: LOUD, if it were there alone now.");
        MustNotStop x = bell("35;17", "");
        x.take(1);
        x.minutes(3);
        int[][] due = {{3, 5, 0, 0, 15}, {1, 7, 6, 1, -11}};
        for (int i = 0; i < 2; i++) {
            for (int what = 0; what <= 4; what++) {
                is(x.ringer(i, what), due[i][what]);
            }
        }

        says(7, "NoSuchElementException: none such, another what.");
        int[] none = {-1, 2, 8, 31, 32, 33, LEAST, GREATEST};
        for (int i : none) {
            for (int what = 0; what <= 4; what++) {
                noRinger(x, i, what);
            }
        }
        int[] others = {-1, 5, LEAST, GREATEST};
        for (int what : others) {
            noRinger(x, 0, what);
            noRinger(x, 9, what);
        }

        says(8, "Of one of TOWNSPEOPLE, what 0: EAR, 1: NEED, 2: 1 if it doubts.");
        x = town("35;17");
        x.minutes(1);
        int[][] told = {{3, 5, 0}, {1, 7, 1}};
        for (int i = 0; i < 2; i++) {
            for (int what = 0; what <= 2; what++) {
                is(x.person(i, what), told[i][what]);
            }
        }

        says(8, "NoSuchElementException: likewise.");
        for (int i : none) {
            for (int what = 0; what <= 2; what++) {
                noPerson(x, i, what);
            }
        }
        int[] odd = {-1, 3, 4, LEAST, GREATEST};
        for (int what : odd) {
            noPerson(x, 0, what);
            noPerson(x, 9, what);
        }

        says(9, "LOUD as it is now.");
        x = bell("35;91", "");
        is(x.loud(), 0);
        x.take(0);
        is(x.loud(), 15);
        x.minutes(8);
        is(x.loud(), -1);
        x.take(1);
        is(x.loud(), 89);
    }

    static void setAndSheet() {
        says(10, "WEIGHT (what 0; 1 .. 30), FROST (1; 0 .. 9), MOST (2; 0 .. 9) becomes v: what it was.");
        MustNotStop x = new MustNotStop();
        int[][] sets = {{0, 1, 5}, {0, 30, 1}, {0, 30, 30}, {1, 9, 0}, {1, 0, 9}, {2, 0, 2}, {2, 9, 0}, {2, 9, 9}};
        for (int[] s : sets) {
            is(x.set(s[0], s[1]), s[2]);
            is(x.count(10 + s[0]), s[1]);
        }

        says(10, "Refused: others.");
        int[][] others = {{0, 0}, {0, 31}, {0, -1}, {0, LEAST}, {1, -1}, {1, 10}, {1, GREATEST}, {2, -1}, {2, 10}, {3, 1}, {-1, 1},
            {LEAST, 1}, {GREATEST, 1}};
        for (int[] o : others) {
            below(x, -1, y -> y.set(o[0], o[1]));
        }
        sheet();
    }

    /** TIRED of all three, two digits each. */
    static int tiredOfThree(MustNotStop x) {
        return tired(x, 0) * 10000 + tired(x, 1) * 100 + tired(x, 2);
    }

    static void sheet() {
        says(11, "ints (2) of n entries f, f + step, .. (of bytes, shorts the lowest bits, with their sign; put to 0 .. 99)");
        MustNotStop x = bell("35;17;94", "");
        is(x.sheet(2, 3, 98, 1), 98 + 99 + 99);
        is(tiredOfThree(x), 989999);
        is(x.sheet(2, 3, 1, -1), 1);
        is(tiredOfThree(x), 10000);
        is(x.sheet(0, 3, 126, 1), 198);
        is(tiredOfThree(x), 999900);
        is(x.sheet(0, 3, 255, 1), 1);
        is(tiredOfThree(x), 1);
        is(x.sheet(0, 1, -129, 0), 99);
        is(x.sheet(0, 1, -128, 0), 0);
        is(x.sheet(0, 1, -200, 0), 56);
        is(x.sheet(1, 3, 32766, 1), 198);
        is(tiredOfThree(x), 999900);
        is(x.sheet(1, 3, 65535, 1), 1);
        is(tiredOfThree(x), 1);
        is(x.sheet(1, 1, 256, 0), 99);
        is(x.sheet(1, 1, -65494, 0), 42);
        is(x.sheet(2, 1, 65537, 0), 99);
        is(x.sheet(2, 3, GREATEST, 1), 99);
        is(tiredOfThree(x), 990000);
        is(x.sheet(2, 3, LEAST, -1), 198);
        is(tiredOfThree(x), 9999);
        is(x.sheet(2, 3, 7, LEAST), 14);
        is(tiredOfThree(x), 70007);
        is(x.sheet(0, 3, 7, GREATEST), 7 + 6 + 5);

        says(11, "or a missing one (3): those behind it have 0: the sum of all.");
        x.sheet(2, 3, 7, 0);
        is(x.sheet(2, 2, 50, 0), 100);
        is(tiredOfThree(x), 505000);
        is(x.sheet(0, 1, 9, 0), 9);
        is(tiredOfThree(x), 90000);
        is(x.sheet(1, 0, 9, 0), 0);
        is(tiredOfThree(x), 0);
        is(x.sheet(2, 3, 9, 0), 27);
        is(x.sheet(2, 8, 9, 0), 27);
        is(bell(EIGHT, "").sheet(2, 8, 99, 0), 792);
        is(new MustNotStop().sheet(2, 8, 9, 0), 0);

        says(11, "-2: n below 0 (of kinds 0 .. 2; nothing changes)");
        x.sheet(2, 3, 7, 0);
        for (int kind = 0; kind <= 2; kind++) {
            int k = kind;
            below(x, -2, y -> y.sheet(k, -1, 9, 0));
            below(x, -2, y -> y.sheet(k, LEAST, 9, 0));
        }
        is(tiredOfThree(x), 70707);

        says(11, "-3: missing (all 0).");
        for (int n : new int[] {-1, 0, 3, 8, LEAST}) {
            x.sheet(2, 3, 7, 0);
            x.settle(7, 3);
            is(x.sheet(3, n, 9, 1), -3);
            is(tiredOfThree(x), 0);
            row(x, 1);
        }

        says(11, "NONE: another kind, n above 8 (these first).");
        x.sheet(2, 3, 7, 0);
        int[][] others = {{-1, 3}, {4, 3}, {LEAST, 3}, {GREATEST, 3}, {4, -1}, {-1, -1}, {0, 9}, {1, 9}, {2, 9}, {3, 9}, {2, GREATEST}};
        for (int[] o : others) {
            below(x, -1, y -> y.sheet(o[0], o[1], 9, 0));
        }
        is(tiredOfThree(x), 70707);
    }

    // ---- promises 12 to 17: minutes

    static void takeLeaveMend() {
        says(12, "One of RINGERS takes THE ROPE: how many are there then.");
        MustNotStop x = bell(EIGHT, "");
        is(x.take(7), 1);
        is(x.take(0), 2);
        is(x.take(4), 3);
        is(x.count(2), 128 + 1 + 16);

        says(12, "-2: it is there; -3: 3 are; NONE: none such.");
        below(x, -2, y -> y.take(7));
        below(x, -2, y -> y.take(0));
        below(x, -3, y -> y.take(1));
        below(x, -1, y -> y.take(8));
        below(x, -1, y -> y.take(-1));
        below(x, -1, y -> y.take(32));
        below(x, -1, y -> y.take(LEAST));
        below(x, -1, y -> y.take(GREATEST));
        below(new MustNotStop(), -1, y -> y.take(0));
        x.leave(0);
        below(x, -2, y -> y.take(7));
        is(x.take(1), 3);

        says(13, "One of RINGERS leaves THE ROPE: how many are there then.");
        is(x.leave(7), 2);
        is(x.leave(4), 1);
        is(x.leave(1), 0);
        is(x.count(2), 0);

        says(13, "-2: it is not there; NONE: none such.");
        x.take(0);
        below(x, -2, y -> y.leave(7));
        below(x, -1, y -> y.leave(8));
        below(x, -1, y -> y.leave(-1));
        below(x, -1, y -> y.leave(32));
        below(x, -1, y -> y.leave(LEAST));
        below(new MustNotStop(), -1, y -> y.leave(0));
        is(x.leave(0), 0);
        below(x, -2, y -> y.leave(0));

        says(14, "STRANDS are n (1 .. 99) more (99 at most): STRANDS then.");
        x = new MustNotStop();
        is(x.mend(1), 51);
        is(x.mend(47), 98);
        is(x.mend(1), 99);
        is(x.mend(1), 99);
        is(x.mend(99), 99);
        is(x.count(14), 5);
        is(new MustNotStop().mend(99), 99);
        x = rungBy("91", "5");
        minutes(x, 500);
        is(x.mend(99), 99);

        says(14, "Refused: another n.");
        for (int n : new int[] {0, -1, 100, LEAST, GREATEST}) {
            below(new MustNotStop(), -1, y -> y.mend(n));
        }
    }

    static void minutesAndWatches() {
        says(15, "n MINUTES (0 .. 120): how many of them were rung");
        MustNotStop x = rungBy("91", "m");
        is(x.minutes(0), 0);
        row(x, 0, 0);
        is(x.count(4), 0);
        is(x.minutes(120), 118);
        is(x.count(4), 120);
        is(x.minutes(1), 0);
        is(x.minutes(1), 1);

        says(15, "the ROW: STOPS in these, those of TOWNSPEOPLE (bits) that began to doubt in these.");
        x = town("30;50;90");
        x.minutes(2);
        row(x, 0, 0);
        x.minutes(1);
        row(x, 1, 1);
        x.minutes(0);
        row(x, 0, 0);
        x.minutes(6);
        row(x, 0, 6);
        x = rungBy("91", "m/3-m/3/2*2");
        x.set(2, 0);
        is(x.minutes(60), 30);
        row(x, 10, 0);

        says(15, "Refused: another n.");
        for (int n : new int[] {-1, 121, LEAST, GREATEST}) {
            below(x, -1, y -> y.minutes(n));
        }
        watchRopeActs();
        watchOtherActs();
        watchTexts();
    }

    static MustNotStop four() {
        return bell("35;17;94;90", "5");
    }

    static void watchRopeActs() {
        says(16, "THE TEXT tells A WATCH (an empty one: nothing)");
        MustNotStop x = four();
        x.settle(7, 3);
        is(x.watch(), 0);
        row(x, 0, 0);
        is(x.count(14), 0);

        says(16, "t, a digit: take(); l, a digit: leave()");
        is(read(x, "t0;t3;l0;l3;t2").watch(), 5);
        is(x.count(16), 0);
        is(x.count(2), 4);
        for (String act : new String[] {"t4", "t9", "t2", "l4", "l9", "l0"}) {
            is(read(x, act).watch(), 0);
            row(x, 1, 0);
            is(x.count(2), 4);
        }
        read(x, "t0;t1").watch();
        is(read(x, "t3").watch(), 0);
        is(x.count(2), 7);

        says(16, "c, two digits: the first leaves and the second takes THE ROPE (neither, if one of it is refused)");
        is(read(x, "c13").watch(), 1);
        is(x.count(2), 13);
        for (String act : new String[] {"c12", "c02", "c04", "c09", "c41", "c91", "c44"}) {
            is(read(x, act).watch(), 0);
            row(x, 1, 0);
            is(x.count(2), 13);
        }
        is(read(x, "c00").watch(), 1);
        is(x.count(2), 13);
        x = four();
        is(read(x, "c01").watch(), 0);
        x.take(0);
        is(read(x, "c02").watch(), 1);
        is(x.count(2), 4);
        for (String act : new String[] {"c41", "c91", "c01", "c24", "c29"}) {
            is(read(x, act).watch(), 0);
            is(x.count(16), 0);
            is(x.count(2), 4);
        }
    }

    static void watchOtherActs() {
        says(16, "m and a number (1 or 2 digits): mend()");
        MustNotStop x = four();
        is(read(x, "m1;m01;m9").watch(), 3);
        is(x.count(3), 61);
        is(read(x, "m0").watch(), 0);
        is(read(x, "m00").watch(), 0);
        is(read(x, "m99;m99").watch(), 2);
        is(x.count(3), 99);

        says(16, "a number (1 to 3 digits): minutes()");
        is(read(x, "0;00;000;1;01;001;120").watch(), 7);
        is(x.count(4), 123);
        is(read(x, "121").watch(), 0);
        is(read(x, "999").watch(), 0);
        is(x.count(4), 123);

        says(16, "they are done one by one, till one is refused (it answers below 0): how many were done; the ROW: 1 if one was refused, else 0; STOPS in these.");
        x = four();
        is(read(x, "2;t0;1;l0;l0;9").watch(), 4);
        row(x, 1, 0);
        is(x.count(4), 3);
        is(read(x, "5").watch(), 1);
        row(x, 0, 1);
        is(read(x, "t1;1;l1;9;t4").watch(), 4);
        row(x, 1, 1);
        is(read(x, "t8;9").watch(), 0);
        row(x, 1, 0);
        is(x.count(4), 18);
        is(read(x, "t0;1;l0;3;t0;1;l0;3").watch(), 8);
        row(x, 0, 2);
    }

    static void watchTexts() {
        says(16, "-1 - p: the sign at p can't stand there");
        String[] texts = {"x", ";", "-1", "T0", "tt", "t;", "t12", "l12", "lx", "c;", "c1;", "c1x", "c123", "mx", "m;", "m123", "1234",
            "12x", "1t", "1;;2", "1;x", "t0l0", "1 ", "\0", "1\u00ff",
            "/", ":", "t/", "t:", "c1:", "m:", "1:"};
        int[] at = {0, 0, 0, 0, 1, 1, 2, 2, 1, 1, 2, 2, 3, 1, 1, 3, 3, 2, 1, 2, 2, 2, 1, 0, 1, 0, 0, 1, 1, 2, 1, 1};
        for (int i = 0; i < texts.length; i++) {
            belowByText(four(), texts[i], -1 - at[i], y -> y.watch());
        }

        says(16, "its end, if it ends too early");
        String[] early = {"t", "l", "c", "c1", "m", "1;", "t0;l", "5;m1;", THIRTY_ACTS.substring(0, 58)};
        for (String each : early) {
            belowByText(four(), each, -1 - each.length(), y -> y.watch());
        }
        belowByText(four(), THIRTY_ACTS + ";", -61, y -> y.watch());
        belowByText(four(), THIRTY_ACTS.substring(0, 58) + "c1", -61, y -> y.watch());

        says(16, "60, if it has more and the first 60 could go on or end");
        belowByText(four(), THIRTY_ACTS + "2;", -61, y -> y.watch());
        belowByText(four(), THIRTY_ACTS + ";1", -61, y -> y.watch());
        belowByText(four(), THIRTY_ACTS + "2x", -61, y -> y.watch());
        belowByText(four(), THIRTY_ACTS + "22222", -61, y -> y.watch());
        belowByText(four(), THIRTY_ACTS.substring(0, 58) + "c12", -61, y -> y.watch());
        belowByText(four(), THIRTY_ACTS.substring(0, 58) + ";12", -59, y -> y.watch());
        belowByText(four(), THIRTY_ACTS + "x1", -60, y -> y.watch());
        MustNotStop x = four();
        is(read(x, THIRTY_ACTS + "2").watch(), 30);
        is(x.count(4), 29 + 12);

        says(16, "nothing is done then.");
        x = four();
        belowByText(x, "t0;5;m3;x", -9, y -> y.watch());
        is(x.count(2) + x.count(4), 0);
        is(x.count(3), 50);
        is(x.count(14), 0);
    }

    static void undo() {
        undoneEach();
        says(17, "of 15 that are kept, the latest ones; such as were done");
        MustNotStop x = new MustNotStop();
        for (int i = 1; i <= 15; i++) {
            x.minutes(1);
            is(x.count(14), i);
        }
        x.minutes(1);
        is(x.count(14), 15);
        x.mend(1);
        is(x.count(14), 15);
        for (int left = 14; left >= 0; left--) {
            is(x.undo(), left);
            is(x.count(4), left + 2);
        }
        is(x.undo(), -1);
        is(x.count(4), 2);
        x = four();
        x.take(4);
        x.leave(0);
        x.mend(0);
        x.minutes(121);
        is(x.count(14), 0);
        x.minutes(0);
        x.mend(99);
        x.mend(99);
        is(x.count(14), 3);

        says(17, "watch() of which one ACT was done, as one");
        x = four();
        read(x, "t9;5").watch();
        is(x.count(14), 0);
        x.watch();
        is(x.count(14), 0);
        read(x, "t0;x").watch();
        is(x.count(14), 0);
        read(x, "0;t9").watch();
        is(x.count(14), 1);
        read(x, "t0;5;m1;l0").watch();
        is(x.count(14), 2);
        is(x.undo(), 1);
        is(x.count(4), 0);
        is(x.count(3), 50);

        says(17, "how many are left that can be. Refused: none.");
        is(x.undo(), 0);
        below(x, -1, y -> y.undo());
        below(new MustNotStop(), -1, y -> y.undo());
        x.mend(1);
        is(x.undo(), 0);
        below(x, -1, y -> y.undo());

        says(17, "(TIRED, who is at THE ROPE, STRANDS, NOW, RUNG, SILENT, STOPS, PAID, who doubts are as ahead of it)");
        x = bell("35;17;94", "10;91", "");
        x.sheet(2, 3, 1, 1);
        read(x, "t0;9;3").watch();
        String before = seen(x);
        read(x, "t1;l0;9;m5;t2;30").watch();
        is(x.undo(), 1);
        same(seen(x), before);
        is(tiredOfThree(x), 250000);

        says(17, "(ringers(), town() and again() forget them, if they are not refused; empty ones do not.)");
        forgetting();
    }

    static void undoneEach() {
        says(17, "The latest take(), leave(), mend(), minutes() or watch()");
        Call[] deeds = {x -> x.take(2), x -> x.leave(3), x -> x.mend(7), x -> x.minutes(0), x -> x.minutes(9), x -> read(x, "c30;9").watch(),
            x -> read(x, "9;t9").watch()};
        for (Call deed : deeds) {
            MustNotStop x = rich();
            x.keep(0);
            x.again(0);
            x.sheet(2, 4, 11, 11);
            x.years(5, 20);
            String before = seen(x);
            is(deed.on(x) >= 0, true);
            is(x.count(14), 1);
            is(x.undo(), 0);
            same(seen(x), before);
            is(x.undo(), -1);
            same(seen(x), before);
        }
    }

    static void forgetting() {
        Call[] keeping = {x -> x.ringers(), x -> x.town(), x -> read(x, "0").ringers(), x -> read(x, "55;").town(),
            x -> read(x, "55;55;55;55;55;55").ringers(), x -> x.again(1) ? 1 : 0, x -> x.again(3) ? 1 : 0, x -> x.keep(1) ? 1 : 0,
            x -> x.set(0, 9), x -> x.sheet(2, 2, 5, 5), x -> read(x, "s").rule(), x -> x.forget()};
        for (Call call : keeping) {
            MustNotStop x = rich();
            x.end(0);
            call.on(x);
            is(x.count(14), 9);
            is(x.undo(), 8);
        }
        Call[] forgetting = {x -> read(x, "55").ringers(), x -> read(x, "55").town(), x -> x.again(0) ? 1 : 0, x -> x.again(2) ? 1 : 0};
        for (Call call : forgetting) {
            MustNotStop x = rich();
            call.on(x);
            is(x.count(14), 0);
            is(x.undo(), -1);
        }
    }

    // ---- promises 18 to 25: how long

    static void howLong() {
        lastsAndHush();
        teams();
        silenceAndCrowd();
        swap();
        ready();
    }

    static void lastsAndHush() {
        says(18, "In how many MINUTES (1 .. 999) IT STOPS first, as all is: how many; the ROW: how many of these are rung, PAID in these.");
        MustNotStop x = new MustNotStop();
        is(x.lasts(), 3);
        x.minutes(2);
        is(x.lasts(), 1);
        row(x, 0, 0);
        x.set(2, 0);
        x = rungBy("35", "");
        is(x.lasts(), 11);
        row(x, 8, 55);
        x.minutes(8);
        x.set(2, 0);
        is(x.lasts(), 1);
        row(x, 0, 5);
        x = rungBy("95", "5");
        x.mend(49);
        x.set(2, 8);
        is(x.lasts(), 999);
        row(x, 990, 999 * 5);

        says(18, "-2: not in 999.");
        x.set(2, 9);
        below(x, -2, y -> y.lasts());
        x = new MustNotStop();
        x.minutes(3);
        below(x, -2, y -> y.lasts());

        says(19, "The first MINUTE from now (0: the next one .. 998) in which it is not rung, as all is: it; the ROW: SILENT behind it.");
        x = new MustNotStop();
        is(x.hush(), 0);
        row(x, 1);
        x.minutes(4);
        is(x.hush(), 0);
        row(x, 5);
        x = rungBy("91", "1-(m=59)");
        is(x.hush(), 59);
        row(x, 1);
        x.minutes(59);
        is(x.hush(), 0);
        row(x, 1);
        x.minutes(1);
        is(x.hush(), 59);

        says(19, "-2: none of these.");
        // It never comes: 99 STRANDS are gone behind 990 rung MINUTES.
        x = rungBy("91", "5");
        x.minutes(10);
        x.mend(99);
        is(x.hush(), 990);
        row(x, 1);
    }

    static void teams() {
        says(20, "The fewest RINGERS (1 .. 3) who, alone at THE ROPE from now on (TIRED as they are), ring each of n MINUTES (1 .. 120): how many; the ROW: they (bits; of as few those with the least FEES together, then the least bits), FEES of a MINUTE.");
        MustNotStop x = bell("31;30;42;24", "s-6");
        is(x.team(1), 2);
        row(x, 6, 2);
        x = bell("31;31;42;40", "s-6");
        is(x.team(1), 2);
        row(x, 9, 1);
        x = bell("31;31;42", "s-6");
        x.take(1);
        is(x.team(120), 2);
        row(x, 5, 3);
        read(x, "s-9").rule();
        is(x.team(1), 3);
        row(x, 7, 4);
        read(x, "s-3").rule();
        is(x.team(1), 1);
        row(x, 4, 2);
        x = bell("55", "1-(m=59)*(r<40)");
        is(x.team(119), 1);
        row(x, 1, 5);
        below(x, -2, y -> y.team(120));
        x = bell("31;90", "s*9-t");
        x.sheet(2, 2, 27, 54);
        below(x, -2, y -> y.team(1));
        x.sheet(2, 2, 26, 54);
        is(x.team(1), 1);
        row(x, 2, 0);
        x.sheet(2, 2, 26, 55);
        is(x.team(1), 1);
        row(x, 1, 1);

        says(20, "-2: by none; NONE: another n.");
        below(x, -2, y -> y.team(9));
        below(new MustNotStop(), -2, y -> y.team(1));
        below(bell("91;91;91;91", "n>3"), -2, y -> y.team(1));
        for (int n : new int[] {0, 121, -1, LEAST, GREATEST}) {
            below(x, -1, y -> y.team(n));
            below(new MustNotStop(), -1, y -> y.team(n));
        }

        says(21, "The longest (0 .. 999 MINUTES) that one, two or three of RINGERS (many 1 .. 3) can ring alone from now on, each MINUTE: how many MINUTES; the ROW: they (bits; of as long ones the least).");
        x = bell("91;91;91", "5");
        x.mend(49);
        for (int many = 1; many <= 3; many++) {
            is(x.strongest(many), 990);
            row(x, (1 << many) - 1);
        }
        read(x, "0").rule();
        for (int many = 1; many <= 3; many++) {
            is(x.strongest(many), 0);
            row(x, (1 << many) - 1);
        }
        x = bell("10;20;20;10", "s-m");
        is(x.strongest(1), 2);
        row(x, 2);
        is(x.strongest(2), 4);
        row(x, 6);
        is(x.strongest(3), 5);
        row(x, 7);
        is(bell("91", "1-(m=59)*(r<40)").strongest(1), 119);

        says(21, "-2: there are not so many; NONE: another many.");
        below(new MustNotStop(), -2, y -> y.strongest(1));
        below(bell("91", "5"), -2, y -> y.strongest(2));
        below(bell("91;91", "5"), -2, y -> y.strongest(3));
        for (int many : new int[] {0, 4, -1, LEAST, GREATEST}) {
            below(x, -1, y -> y.strongest(many));
            below(new MustNotStop(), -1, y -> y.strongest(many));
        }
    }

    static void silenceAndCrowd() {
        says(22, "The longest silence in the next n MINUTES (1 .. 999; what is SILENT now belongs to one that goes on), as all is: how many MINUTES");
        MustNotStop x = new MustNotStop();
        x.minutes(4);
        is(x.silence(1), 5);
        row(x, 1, 50);
        is(x.silence(999), 1003);
        row(x, 999, 50);
        x = rungBy("91", "m>1");
        x.minutes(1);
        is(x.silence(1), 2);
        row(x, 1, 50);
        is(x.silence(50), 2);
        row(x, 1, 46);

        says(22, "with which MINUTE from now (1 ..) it has got so long first (0: it is so long now, and none gets longer), STRANDS behind the n.");
        x = rungBy("91", "(m>2)-(m>29)*(m<33)");
        is(x.silence(40), 3);
        row(x, 3, 47);
        x.minutes(3);
        is(x.silence(40), 3);
        row(x, 0, 47);
        is(x.silence(1), 3);
        row(x, 0, 50);
        x.minutes(1);
        is(x.silence(26), 0);
        row(x, 0, 48);
        is(x.silence(27), 1);
        row(x, 27, 48);
        is(x.silence(40), 3);
        row(x, 29, 47);

        says(22, "NONE: another n.");
        for (int n : new int[] {0, 1000, -1, LEAST, GREATEST}) {
            below(x, -1, y -> y.silence(n));
        }

        says(23, "Those of TOWNSPEOPLE (bits) that doubt in n MINUTES (0 .. 999), as all is; the ROW: in how many MINUTES the last of these began (0: all of them now), how many they are.");
        x = town("30;91;92;90");
        is(x.crowd(0), 0);
        row(x, 0, 0);
        is(x.crowd(2), 0);
        row(x, 0, 0);
        is(x.crowd(3), 1);
        row(x, 3, 1);
        is(x.crowd(999), 15);
        row(x, 9, 4);
        x.minutes(3);
        is(x.crowd(0), 1);
        row(x, 0, 1);
        is(x.crowd(1), 3);
        row(x, 1, 2);
        x = bell("91", "90", "5");
        x.take(0);
        x.mend(49);
        is(x.crowd(998), 0);
        row(x, 0, 0);
        is(x.crowd(999), 1);
        row(x, 999, 1);
        is(new MustNotStop().crowd(999), 0);

        says(23, "NONE: another n.");
        for (int n : new int[] {-1, 1000, LEAST, GREATEST}) {
            below(x, -1, y -> y.crowd(n));
        }
    }

    static void swap() {
        says(24, "by which it is rung the longest from now on, each MINUTE (999 at most): how many MINUTES are rung ahead of the first that is not (0: not even the next one; 999: all are)");
        MustNotStop x = bell("91;91", "5");
        x.take(0);
        // All of 999 never are: 99 STRANDS are gone behind 990 rung MINUTES.
        x.mend(49);
        is(x.swap(), 990);
        row(x, 0, 1);
        read(x, "m>0").rule();
        is(x.swap(), 0);
        row(x, 0, 1);
        read(x, "m<1").rule();
        is(x.swap(), 1);
        x.minutes(1);
        is(x.swap(), 0);

        says(24, "the ROW: who leaves, who takes it: of as good ones the least row.");
        x = bell("91;91;91;91;91", "5");
        x.take(1);
        x.take(3);
        is(x.swap(), 500);
        row(x, 1, 0);
        x = bell("50;20;40;30", "s=4");
        x.take(1);
        x.take(3);
        is(x.swap(), 0);
        row(x, 1, 0);
        read(x, "(s=6)+(s=7)").rule();
        is(x.swap(), 500);
        row(x, 1, 2);

        says(24, "-2: there is nobody to leave, or to take it.");
        below(new MustNotStop(), -2, y -> y.swap());
        below(bell("91;91", "5"), -2, y -> y.swap());
        below(rungBy("91", "5"), -2, y -> y.swap());
        x = bell("91;91;91", "5");
        x.take(0);
        x.take(1);
        is(x.swap(), 500);
        x.take(2);
        below(x, -2, y -> y.swap());
    }

    static void ready() {
        says(25, "The fewest MINUTES (0 .. 120) that one of RINGERS must rest (the others go on as they are; it is not at THE ROPE in these), so that, alone at THE ROPE then, it rings each of n MINUTES (1 .. 60): how many; the ROW: TIRED when it begins.");
        MustNotStop x = bell("91;91", "5");
        x.sheet(2, 2, 7, 0);
        is(x.ready(0, 60), 0);
        row(x, 7);
        x = bell("31;42", "s*3-t");
        x.take(0);
        x.take(1);
        x.sheet(2, 2, 10, 0);
        is(x.ready(0, 3), 6);
        row(x, 4);
        is(x.ready(0, 5), 10);
        row(x, 0);
        read(x, "1-(m=59)").rule();
        is(x.ready(0, 59), 0);
        below(x, -2, y -> y.ready(0, 60));
        read(x, "m=59").rule();
        is(x.ready(1, 1), 59);
        // The other one rings alone, and wears the rope: 12 STRANDS in 120 MINUTES.
        x = bell("91;21", "(s=2)+(s=9)*(r<39)");
        x.take(0);
        x.take(1);
        is(x.ready(0, 1), 120);
        row(x, 0);

        says(25, "-2: not by 120; NONE: others.");
        read(x, "(s=2)+(s=9)*(r<38)").rule();
        below(x, -2, y -> y.ready(0, 1));
        x.minutes(9);
        is(x.count(5), 0);
        x.leave(0);
        x.minutes(9);
        below(x, -2, y -> y.ready(0, 1));
        x.minutes(1);
        is(x.ready(0, 1), 120);
        x.minutes(1);
        is(x.ready(0, 1), 119);
        x = bell("91;21", "(s=2)+(s=9)*(r<39)");
        x.take(1);
        is(x.ready(0, 60), 120);
        read(x, "(s=2)+(s=9)*(r<39)*(r>37)").rule();
        is(x.ready(0, 10), 120);
        below(x, -2, y -> y.ready(0, 11));
        for (int n : new int[] {0, 61, -1, LEAST, GREATEST}) {
            below(x, -1, y -> y.ready(0, n));
        }
        for (int i : new int[] {-1, 2, 8, 32, LEAST, GREATEST}) {
            below(x, -1, y -> y.ready(i, 1));
        }
        below(new MustNotStop(), -1, y -> y.ready(0, 1));
    }

    // ---- promises 26 to 29: rotas

    static void rotas() {
        rota();
        cheapest();
        longest();
        change();
    }

    static void rota() {
        says(26, "The fewest different RINGERS by whom that goes: how many; the ROW: who in each shift: of as few the least row.");
        MustNotStop x = bell("25;23", "s-t");
        x.set(2, 0);
        is(x.rota(1, 1), 1);
        row(x, 0);
        is(x.rota(4, 1), 2);
        row(x, 0, 1, 0, 1);
        x = bell("11;91", "1-(m=19)*(r<44)");
        x.set(2, 0);
        is(x.rota(4, 19), 1);
        row(x, 0, 0, 0, 0);
        is(x.rota(3, 20), 1);
        below(x, -2, y -> y.rota(4, 20));
        x = bell("40;11;22;33", "(m/3=s-1)+(s=4)*(m>8)");
        x.set(2, 0);
        is(x.rota(3, 3), 3);
        row(x, 1, 2, 3);
        is(x.rota(4, 3), 4);
        row(x, 1, 2, 3, 0);

        says(26, "-2: it can't be; NONE: another n or k.");
        below(new MustNotStop(), -2, y -> y.rota(1, 1));
        x = bell("91", "0");
        is(x.rota(1, 2), 1);
        below(x, -2, y -> y.rota(1, 3));
        below(x, -2, y -> y.rota(3, 1));
        badShifts((y, n, k) -> y.rota(n, k));
    }

    interface Shifts {
        long on(MustNotStop x, int n, int k);
    }

    static void badShifts(Shifts call) {
        int[][] bad = {{0, 1}, {5, 1}, {-1, 1}, {LEAST, 1}, {GREATEST, 1}, {1, 0}, {1, 21}, {1, -1}, {4, LEAST}, {4, GREATEST}, {5, 21}};
        for (int[] b : bad) {
            below(bell("91", "5"), -1, y -> call.on(y, b[0], b[1]));
            below(new MustNotStop(), -1, y -> call.on(y, b[0], b[1]));
        }
    }

    static void cheapest() {
        says(27, "The least FEES (of all MINUTES together) by which that goes: how much; the ROW: who in each shift: of as cheap ones the least row.");
        MustNotStop x = bell("25;23", "s-t");
        x.set(2, 0);
        is(x.cheapest(3, 1), 11);
        row(x, 1, 0, 1);
        x = bell("99;92;93;92", "5");
        is(x.cheapest(4, 20), 160);
        row(x, 1, 1, 1, 1);
        is(x.cheapest(1, 1), 2);
        row(x, 1);
        is(bell("90", "5").cheapest(4, 20), 0);
        x = bell("90;90;90", "5");
        is(x.cheapest(2, 3), 0);
        row(x, 0, 0);

        says(27, "-2, NONE: likewise.");
        below(new MustNotStop(), -2, y -> y.cheapest(1, 1));
        x = bell("91", "0");
        is(x.cheapest(2, 1), 2);
        below(x, -2, y -> y.cheapest(3, 1));
        badShifts((y, n, k) -> y.cheapest(n, k));
    }

    static void longest() {
        says(28, "The greatest k (1 .. 20) with which a rota of n shifts (1 .. 3) goes: it; the ROW: who in each shift then: the least row.");
        MustNotStop x = bell("91;91", "5");
        for (int n = 1; n <= 3; n++) {
            is(x.longest(n), 20);
            row(x, new long[n]);
        }
        x = bell("91;91", "1-(m=20)");
        x.set(2, 0);
        is(x.longest(1), 20);
        is(x.longest(2), 10);
        is(x.longest(3), 6);
        read(x, "1-(m=1)").rule();
        is(x.longest(1), 1);
        x = bell("25;23", "s-t");
        x.set(2, 0);
        is(x.longest(3), 1);
        row(x, 0, 1, 0);

        says(28, "-2: with none; NONE: another n.");
        below(new MustNotStop(), -2, y -> y.longest(1));
        read(x, "1-(m=1)").rule();
        is(x.longest(1), 1);
        below(x, -2, y -> y.longest(2));
        for (int n : new int[] {0, 4, -1, LEAST, GREATEST}) {
            below(x, -1, y -> y.longest(n));
            below(new MustNotStop(), -1, y -> y.longest(n));
        }
    }

    static void change() {
        says(29, "The fewest MINUTES (0 .. 999) that those at THE ROPE stay from now on, so that, if all leave then and nobody is there for n MINUTES (0 .. 30), IT does not STOP in these n: how many.");
        MustNotStop x = rungBy("35", "");
        is(x.change(0), 0);
        is(x.change(2), 0);
        is(x.change(3), 11);
        is(x.change(30), 11);
        x.minutes(9);
        is(x.change(1), 0);
        is(x.change(2), 2);
        x.minutes(1);
        is(x.change(0), 0);
        is(x.change(1), 1);
        x = bell("91", "m>1");
        x.minutes(2);
        x.take(0);
        is(x.change(0), 0);
        is(x.change(1), 1);
        is(x.change(2), 1);
        x = rungBy("91", "5");
        x.mend(49);
        x.set(2, 8);
        is(x.change(8), 0);
        is(x.change(9), 999);
        is(x.change(30), 999);

        says(29, "-2: by none of these; NONE: another n.");
        x.set(2, 9);
        is(x.change(9), 0);
        below(x, -2, y -> y.change(10));
        below(x, -2, y -> y.change(30));
        for (int n : new int[] {-1, 31, LEAST, GREATEST}) {
            below(x, -1, y -> y.change(n));
        }
    }

    // ---- promises 30 to 33: doubts

    static void doubts() {
        says(30, "Those of TOWNSPEOPLE (bits) that doubt in the end, if there is a silence of v MINUTES (0 .. 9): they; the ROW: how many, how many of these have EAR v or less.");
        MustNotStop x = town("30;91;92;90;10");
        is(x.doubts(0), 0);
        row(x, 0, 0);
        is(x.doubts(1), 22);
        row(x, 3, 1);
        is(x.doubts(2), 22);
        is(x.doubts(3), 23);
        row(x, 4, 2);
        is(x.doubts(8), 23);
        is(x.doubts(9), 31);
        row(x, 5, 5);
        is(new MustNotStop().doubts(9), 0);
        is(town("10;91;92;93;94;95;96;97").doubts(1), 255);
        is(town("97;96;95;94;93;92;91;10").doubts(1), 255);
        is(town("98;96;95;94;93;92;91;10").doubts(8), 254);

        says(30, "NONE: another v.");
        for (int v : new int[] {-1, 10, LEAST, GREATEST}) {
            below(x, -1, y -> y.doubts(v));
        }

        says(31, "The least silence (0 .. 9) by which all doubt in the end: it.");
        is(new MustNotStop().frees(), 0);
        is(town("10").frees(), 1);
        is(town("90").frees(), 9);
        is(town("30;91;92").frees(), 3);
        x = town("10;91");
        x.minutes(1);
        is(x.frees(), 0);

        says(31, "-2: by none.");
        // It never comes: EAR is 9 at most.
        is(town("90;90;90;90;90;90;90;99").frees(), 9);
        is(town("99;99").frees(), 9);
        persuadeAndFirm();
    }

    static void persuadeAndFirm() {
        says(32, "The fewest of TOWNSPEOPLE that are to be persuaded, so that all doubt in the end without a silence: how many; the ROW: they (bits; of as few the least).");
        MustNotStop x = new MustNotStop();
        is(x.persuade(), 0);
        row(x, 0);
        x = town("10;20;30;40;50;60;70;80");
        is(x.persuade(), 8);
        row(x, 255);
        x = town("91;91;91");
        is(x.persuade(), 1);
        row(x, 1);
        x = town("92;92;92");
        is(x.persuade(), 2);
        row(x, 3);
        x = town("12;12;90");
        is(x.persuade(), 2);
        row(x, 5);
        x.minutes(1);
        is(x.persuade(), 1);
        row(x, 4);
        x.minutes(8);
        is(x.persuade(), 0);
        row(x, 0);

        says(33, "whom no others make doubt: NEED is 0, or more than how many others there are; the ROW: how many.");
        x = new MustNotStop();
        is(x.firm(), 0);
        row(x, 0);
        x = town("91");
        is(x.firm(), 1);
        row(x, 1);
        x = town("90;91;92;93;94;95;96;97");
        is(x.firm(), 1);
        row(x, 1);
        x = town("90;91;92;93;94;95;98");
        is(x.firm(), 65);
        row(x, 2);
        x = town("99;98;97;96;95;94;93;92");
        is(x.firm(), 3);
        row(x, 2);
    }

    // ---- promises 34 to 36: laws

    static void laws() {
        says(34, "THE TEXT is another RULE (an empty one: none)");
        MustNotStop x = rungBy("35", "0");
        is(x.law(), 11 - 3);
        row(x, 11, 3);
        is(x.loud(), 0);
        is(read(x, "s>0").law(), 510 - 3 - 7);
        is(x.loud(), 0);

        says(34, "in how many MINUTES (1 .. 999) IT STOPS first by it, as all is, less that by THE RULE (each 1000, if not in 999): how much; the ROW: both.");
        x = rungBy("35", "5");
        x.mend(49);
        x.set(2, 8);
        is(read(x, "0").law(), 9 - 999);
        row(x, 9, 999);
        x.set(2, 9);
        is(read(x, "0").law(), 10 - 1000);
        row(x, 10, 1000);
        is(read(x, "6").law(), 0);
        row(x, 1000, 1000);
        read(x, "0").rule();
        is(read(x, "6").law(), 1000 - 10);
        row(x, 1000, 10);
        x.minutes(9);
        is(read(x, "0").law(), 0);
        row(x, 1, 1);
        is(read(x, "1-m/20").law(), 0 + 29 - 1 - 8);
        row(x, 21, 1);

        x = rungBy("35", "");
        x.set(0, 7);
        x.set(1, 2);
        is(read(x, "s*10-t-w*3-f+2").law(), 1);
        row(x, 8, 7);

        says(34, "-10000 - p: the sign at p can't stand there (as rule()).");
        String[] texts = {"x", "s+", "s s", "1000", "(((((s", "1<2<3", "(", "()", FORTY + "1", "-".repeat(80), "--" + FORTY.substring(0, 38)};
        int[] at = {0, 2, 1, 3, 4, 3, 1, 1, 40, 40, 40};
        for (int i = 0; i < texts.length; i++) {
            belowByText(rungBy("35", "7"), texts[i], -10000 - at[i], y -> y.law());
        }

        says(35, "RINGERS (bits) who could ring now alone (ringer() 4 above 0), if FROST were v (0 .. 9); the ROW: how many.");
        x = bell("10;20;30", "s-f");
        is(x.frozen(0), 7);
        row(x, 3);
        is(x.frozen(1), 6);
        is(x.frozen(2), 4);
        is(x.frozen(3), 0);
        row(x, 0);
        is(x.frozen(9), 0);
        is(x.count(11), 0);
        is(new MustNotStop().frozen(9), 0);
        x = bell("10;20;30", "s*10-w-f-t");
        x.set(0, 20);
        x.set(1, 9);
        is(x.frozen(0), 4);
        is(x.frozen(9), 4);
        x.sheet(2, 3, 1, 0);
        is(x.frozen(9), 0);
        is(x.frozen(8), 4);

        says(35, "NONE: another v.");
        for (int v : new int[] {-1, 10, LEAST, GREATEST}) {
            below(x, -1, y -> y.frozen(v));
        }
        heaviest();
    }

    static void heaviest() {
        says(36, "The greatest WEIGHT (1 .. 30) with which those at THE ROPE ring the next n MINUTES (1 .. 120), each: it.");
        MustNotStop x = rungBy("35", "5");
        is(x.heaviest(1), 30);
        is(x.heaviest(120), 30);
        is(x.count(10), 5);
        read(x, "2-w").rule();
        is(x.heaviest(1), 1);
        read(x, "1-(m=59)*(r<40)*(w>3)").rule();
        is(x.heaviest(119), 30);
        is(x.heaviest(120), 3);
        read(x, "w=30").rule();
        is(x.heaviest(120), 30);
        x.set(1, 9);
        read(x, "20-w-f").rule();
        is(x.heaviest(1), 10);

        says(36, "-2: with none; NONE: another n.");
        read(x, "1-w").rule();
        below(x, -2, y -> y.heaviest(1));
        read(x, "w>30").rule();
        below(x, -2, y -> y.heaviest(1));
        below(bell("91", "5"), -2, y -> y.heaviest(1));
        for (int n : new int[] {0, 121, -1, LEAST, GREATEST}) {
            below(x, -1, y -> y.heaviest(n));
        }
    }

    // ---- promises 37 to 41: who rang

    static void whoRang() {
        says(37, "In a shift LOUD was v (-999 .. 9999) or more (is 1), or less (0): how many such.");
        MustNotStop x = bell("50;60", "s");
        is(x.noted(0, 6, 1), 1);
        is(x.rang(0), 2);
        x.forget();
        is(x.noted(5, 6, 0), 1);
        is(x.rang(5), 1);
        x.forget();
        is(x.noted(0, 5, 1), 1);
        is(x.rang(0), 3);
        is(x.noted(0, 7, 0), 2);
        is(x.rang(0), 3);
        is(x.noted(0, 5, 0), 3);
        is(x.rang(0), 0);
        x.forget();
        is(x.noted(0, -999, 1), 1);
        is(x.noted(0, 9999, 0), 2);
        is(x.rows(), 2);
        read(x, "9999+s-5").rule();
        is(read(x, "999*10+4+s").rule(), 0);
        is(x.rows(), 0);
        read(x, "999*10+3+s").rule();
        is(x.rang(0), 1);
        read(x, "-999-6+s").rule();
        is(x.rang(0), 2);

        says(37, "Refused: others, 12.");
        int[][] others = {{-1, 0, 1}, {6, 0, 1}, {LEAST, 0, 1}, {GREATEST, 0, 1}, {0, -1000, 1}, {0, 10000, 1}, {0, LEAST, 1},
            {0, GREATEST, 1}, {0, 0, -1}, {0, 0, 2}, {0, 0, GREATEST}};
        for (int[] o : others) {
            below(x, -1, y -> y.noted(o[0], o[1], o[2]));
        }
        for (int i = 3; i <= 12; i++) {
            is(x.noted(i % 6, 0, 1), i);
        }
        below(x, -1, y -> y.noted(0, 0, 1));
        is(x.count(13), 12);

        says(38, "They are forgotten: how many there were.");
        is(x.forget(), 12);
        is(x.count(13), 0);
        is(x.forget(), 0);
        is(new MustNotStop().forget(), 0);
        is(x.noted(0, 0, 1), 1);
        is(x.forget(), 1);
        rowsRangAsk();
    }

    static void rowsRangAsk() {
        says(39, "Rows of RINGERS in shifts 0 .. 5 that fit all that was noted: how many; the ROW: the least (nothing without).");
        MustNotStop x = new MustNotStop();
        x.settle(7, 3);
        is(x.rows(), 0);
        row(x);
        x = bell("91", "5");
        x.settle(7, 3);
        is(x.rows(), 0);
        row(x);
        x = bell("91;91", "5");
        is(x.rows(), 2);
        row(x, 0, 1, 0, 1, 0, 1);
        x = bell(EIGHT, "s");
        is(x.rows(), 8 * 7 * 7 * 7 * 7 * 7);
        row(x, 0, 1, 0, 1, 0, 1);
        x.noted(5, 8, 1);
        is(x.rows(), (8 * 7 * 7 * 7 * 7 * 7) / 8);
        row(x, 0, 1, 0, 1, 0, 7);
        x.noted(4, 8, 1);
        is(x.rows(), 0);
        row(x);

        says(40, "Who can have rung in a shift (bits), by such rows; the ROW: how many. NONE: none such.");
        is(x.rang(0), 0);
        row(x, 0);
        x.forget();
        is(x.rang(0), 255);
        row(x, 8);
        x.noted(5, 8, 1);
        is(x.rang(5), 128);
        row(x, 1);
        is(x.rang(4), 127);
        row(x, 7);
        is(x.rang(3), 255);
        is(new MustNotStop().rang(5), 0);
        for (int shift : new int[] {-1, 6, LEAST, GREATEST}) {
            below(x, -1, y -> y.rang(shift));
        }

        says(41, "The shift in which the most can have rung, by such rows; of equal ones the first: it; the ROW: how many. -2: there are no such rows.");
        is(x.ask(), 0);
        row(x, 8);
        x.noted(0, 2, 1);
        is(x.ask(), 1);
        row(x, 8);
        x.noted(1, 3, 0);
        x.noted(2, 2, 1);
        is(x.ask(), 3);
        row(x, 8);
        x.noted(4, 8, 1);
        below(x, -2, y -> y.ask());
        below(new MustNotStop(), -2, y -> y.ask());
        below(bell("91", "5"), -2, y -> y.ask());
        x = bell("10;20", "s");
        x.noted(5, 2, 1);
        is(x.ask(), 0);
        row(x, 1);
    }

    // ---- promises 42 to 45: sickness, council and union

    static void sickness() {
        says(42, "Each of RINGERS is sick by p tenths (0 .. 10): how likely one who is not could ring now alone (ringer() 4 above 0): 0; the ROW: the fraction.");
        MustNotStop x = bell("10;20;30", "s-1");
        is(x.sick(0), 0);
        row(x, 1, 1);
        is(x.sick(10), 0);
        row(x, 0, 1);
        is(x.sick(4), 0);
        row(x, 21, 25);
        x = bell(EIGHT, "5");
        is(x.sick(1), 0);
        row(x, 99999999, 100000000);
        is(x.sick(10), 0);
        row(x, 0, 1);
        x = bell("10;20", "0");
        is(x.sick(0), 0);
        row(x, 0, 1);
        x = new MustNotStop();
        is(x.sick(0), 0);
        row(x, 0, 1);

        says(42, "NONE: another p.");
        for (int p : new int[] {-1, 11, LEAST, GREATEST}) {
            below(x, -1, y -> y.sick(p));
        }

        says(43, "The greatest p (0 .. 10) with which that is v (0 .. 100) in 100 or more, and with each lesser one: it.");
        x = bell("10;20;30", "s-1");
        is(x.risk(0), 10);
        is(x.risk(1), 9);
        is(x.risk(19), 9);
        is(x.risk(20), 8);
        is(x.risk(36), 8);
        is(x.risk(37), 7);
        is(x.risk(99), 1);
        is(x.risk(100), 0);
        is(bell("10", "0").risk(0), 10);
        is(bell(EIGHT, "5").risk(99), 5);

        says(43, "-2: not with 0; NONE: another v.");
        below(new MustNotStop(), -2, y -> y.risk(1));
        below(bell("10", "0"), -2, y -> y.risk(100));
        for (int v : new int[] {-1, 101, LEAST, GREATEST}) {
            below(bell("10", "5"), -1, y -> y.risk(v));
            below(new MustNotStop(), -1, y -> y.risk(v));
        }
    }

    static void parts(int v, int k, int council, int union) {
        MustNotStop x = new MustNotStop();
        is(x.settle(v, k), council);
        row(x, union);
    }

    static void councilAndUnion() {
        says(44, "Council and union part v coins (0 .. 20) in k turns (1 .. 20) at most");
        parts(0, 1, 0, 0);
        parts(0, 20, 0, 0);
        parts(20, 1, 20, 0);
        parts(20, 20, 10, 10);
        parts(19, 20, 10, 9);
        parts(20, 19, 11, 9);

        says(44, "or there is one coin fewer (0 at least), and the next turn comes; behind the last turn nobody gets any.");
        parts(1, 20, 1, 0);
        parts(2, 20, 1, 1);
        parts(3, 20, 2, 1);
        parts(5, 1, 5, 0);
        parts(5, 2, 1, 4);

        says(44, "The other one takes, if it would not get more by going on; who offers does so that it gets the most, of such the least offer: how many coins the council gets; the ROW: how many the union gets.");
        parts(20, 2, 1, 19);
        parts(20, 3, 19, 1);
        parts(2, 3, 1, 1);
        parts(1, 2, 1, 0);

        says(44, "NONE: others.");
        int[][] others = {{-1, 1}, {21, 1}, {LEAST, 1}, {GREATEST, 1}, {5, 0}, {5, 21}, {5, -1}, {5, LEAST}, {5, GREATEST}, {21, 21}};
        for (int[] o : others) {
            below(new MustNotStop(), -1, y -> y.settle(o[0], o[1]));
        }

        says(45, "Council and union each hold out 0 .. 9 MINUTES; who holds out longer gets v (0 .. 99) less as many as the other one held out");
        MustNotStop x = new MustNotStop();
        is(x.strike(0), 19);
        row(x, 0, 0);
        is(x.strike(9), 2);
        row(x, 0, 9);
        is(x.strike(99), 1);
        row(x, 9, 9);

        says(45, "if they hold out as long, each gets half of v (cut) less as many.");
        // By half of 1 as 1 the pair 0, 0 would be one; by half of 17 as 9 the pair 9, 9.
        is(x.strike(1), 18);
        row(x, 0, 1);
        is(x.strike(17), 2);
        row(x, 0, 9);
        is(x.strike(18), 3);
        is(x.strike(19), 3);
        row(x, 0, 9);
        is(x.strike(20), 1);

        says(45, "Pairs of MINUTES by which neither would get more by another number alone: how many; the ROW: the least (the council's, the union's; nothing without).");
        // There is always one.
        for (int v = 0; v <= 99; v++) {
            is(x.strike(v) > 0, true);
            is(x.count(15), 2);
        }
        is(x.strike(8), 4);
        row(x, 0, 8);

        says(45, "NONE: another v.");
        for (int v : new int[] {-1, 100, LEAST, GREATEST}) {
            below(x, -1, y -> y.strike(v));
        }
    }

    // ---- promise 46: years

    static void years() {
        says(46, "n MINUTES (1 .. 300) from now");
        MustNotStop x = bell("90", "5");
        is(x.years(-1, 1), 0);
        row(x, 1, 2, 0);
        is(x.years(-1, 300), 0);
        row(x, 150, 98, 0);
        is(x.count(4), 0);

        says(46, "ahead of each a DRAW of how many RINGERS there are tells one, who leaves THE ROPE, if it is there, else takes it, if fewer than 3 are: STOPS in these; the ROW: how many were rung, TIRED of all then, how many doubt then.");
        // By seed 3 four RINGERS are drawn 3, 3, 1, 0, 2, 0, 1, 3.
        x = bell("10;20;30;40", "10", "5");
        x.set(2, 0);
        is(x.years(3, 8), 1);
        row(x, 7, 17, 1);
        x.take(0);
        x.take(1);
        x.take(2);
        is(x.years(3, 2), 0);
        row(x, 2, 12, 0);
        is(x.years(3, 3), 0);
        row(x, 3, 15, 0);
        x.minutes(5);
        x.leave(0);
        x.leave(1);
        x.leave(2);
        x.minutes(2);
        x.sheet(3, 0, 0, 0);
        is(x.count(5) * 10 + x.count(7), 51);
        x.take(3);
        x.minutes(1);
        x.leave(3);
        x.sheet(3, 0, 0, 0);
        is(x.years(3, 8), 1);
        row(x, 7, 17, 1);

        says(46, "(as ints; R is seed at first), (R without sign, by 65536) % n.");
        // The first R of seed 2 is 0x838ccd13: 1 of 3, with its sign it would be 0.
        x = bell("10;20;30", "s-1");
        is(x.years(2, 1), 0);
        row(x, 1, 2, 0);
        x = bell("10;20;30;40;50;60;70;80", "10;91;92", "s*3-t");
        is(x.years(GREATEST, 300), 12);
        row(x, 61, 246, 3);
        x.set(2, 0);
        is(x.years(LEAST, 300), 20);
        row(x, 35, 312, 3);

        says(46, "NONE: another n, no RINGERS.");
        for (int n : new int[] {0, 301, -1, LEAST, GREATEST}) {
            below(x, -1, y -> y.years(1, n));
            below(new MustNotStop(), -1, y -> y.years(1, n));
        }
        below(new MustNotStop(), -1, y -> y.years(1, 1));
        below(town("10"), -1, y -> y.years(1, 300));
    }

    // ---- promises 47 to 50: kept

    static void kept() {
        says(47, "are kept under a number 0 .. 2: true.");
        MustNotStop x = bell("35;17", "10", "5");
        x.take(1);
        x.minutes(3);
        String[] seen = new String[3];
        for (int i = 0; i <= 2; i++) {
            is(x.keep(i), true);
            seen[i] = lasting(x);
            x.take(0);
            x.minutes(9);
            x.leave(1);
        }

        says(47, "Refused: others.");
        int[] others = {-1, 3, 31, 32, 33, 34, LEAST, GREATEST};
        for (int i : others) {
            below(x, 0, y -> y.keep(i) ? 1 : 0);
        }

        says(48, "They are as they were kept under a number.");
        for (int i : new int[] {2, 0, 1, 0}) {
            is(x.again(i), true);
            same(lasting(x), seen[i]);
            is(x.count(14), 0);
        }
        x.minutes(1);
        x.keep(0);
        String latest = lasting(x);
        x.minutes(1);
        is(x.again(0), true);
        same(lasting(x), latest);

        says(48, "Refused: nothing kept, RINGERS or TOWNSPEOPLE came since.");
        for (int i : others) {
            below(x, 0, y -> y.again(i) ? 1 : 0);
        }
        for (int i = 0; i <= 2; i++) {
            int number = i;
            below(new MustNotStop(), 0, y -> y.again(number) ? 1 : 0);
        }
        x = new MustNotStop();
        x.keep(1);
        below(x, 0, y -> y.again(0) ? 1 : 0);
        below(x, 0, y -> y.again(2) ? 1 : 0);
        is(x.again(1), true);
        x.ringers();
        x.town();
        read(x, "0").ringers();
        read(x, "5").town();
        is(x.again(1), true);
        read(x, "55").ringers();
        below(x, 0, y -> y.again(1) ? 1 : 0);
        x.keep(1);
        x.keep(2);
        is(x.again(1), true);
        read(x, "55").town();
        below(x, 0, y -> y.again(1) ? 1 : 0);
        below(x, 0, y -> y.again(2) ? 1 : 0);
        x.keep(2);
        below(x, 0, y -> y.again(1) ? 1 : 0);
        is(x.again(2), true);
        keptAheadOfThem(y -> read(y, "55").ringers());
        keptAheadOfThem(y -> read(y, "55").town());
        countsAndRows();
    }

    static void keptAheadOfThem(Call come) {
        MustNotStop x = new MustNotStop();
        for (int i = 0; i <= 2; i++) {
            is(x.keep(i), true);
        }
        is(come.on(x), 1);
        for (int i = 0; i <= 2; i++) {
            int number = i;
            below(x, 0, y -> y.again(number) ? 1 : 0);
        }
        for (int i = 0; i <= 2; i++) {
            is(x.keep(i), true);
            is(x.again(i), true);
        }
    }

    /** "An object is used for at most 512 calls after it has been made". */
    static void lastCall() {
        promise = 49;
        words = "the 512th call";
        MustNotStop x = new MustNotStop();
        for (int i = 1; i <= 510; i++) {
            is(x.minutes(120), 0);
        }
        is(x.silence(999), 510 * 120 + 999);
        is(x.count(4), 510 * 120);
    }

    static void countsAndRows() {
        says(49, "What 0: RINGERS, 1: TOWNSPEOPLE, 2: those at THE ROPE (bits)");
        MustNotStop x = bell(EIGHT, EIGHT, "5");
        is(x.count(0), 8);
        is(x.count(1), 8);
        x.take(7);
        x.take(6);
        is(x.count(2), 192);
        is(new MustNotStop().count(2), 0);

        says(49, "13: what was noted, 14: what can be undone, 15: numbers of the ROW, 16: signs of THE TEXT.");
        for (int what = 13; what <= 16; what++) {
            is(new MustNotStop().count(what), 0);
        }
        for (int i = 0; i < 20; i++) {
            x.noted(0, 0, 1);
            x.mend(1);
            x.sign(0);
        }
        is(x.count(13), 12);
        is(x.count(14), 15);
        is(x.count(16), 80);
        x.forget();
        x.rows();
        is(x.count(15), 6);

        says(49, "-100 for another what.");
        for (int what : new int[] {-1, 17, 18, LEAST, GREATEST}) {
            below(x, -100, y -> y.count(what));
        }

        says(50, "Number i of the ROW.");
        x = bell("91;91", "5");
        x.rows();
        for (int i = 0; i <= 5; i++) {
            is(x.row(i), i % 2);
        }
        x.frees();
        is(x.row(5), 1);

        says(50, "NoSuchElementException: none such.");
        int[] none = {-1, 6, 7, LEAST, GREATEST};
        for (int i : none) {
            noRow(x, i);
        }
        x.settle(7, 3);
        noRow(x, 1);
        is(x.row(0), 1);
        x.noted(0, 0, 1);
        x.noted(0, 0, 0);
        x.rows();
        noRow(x, 0);
        noRow(new MustNotStop(), 0);
    }
}
