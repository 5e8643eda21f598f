import java.util.NoSuchElementException;

/** For each promise ordinary inputs, the edges that the document names, and wrong inputs; the answers are worked out by hand. */
public final class PromiseTest {
    static int wrong = 0;
    static int asked = 0;
    static int promise = 0;

    public static void main(String[] args) {
        newObject();
        texts();
        ringersAndTown();
        rules();
        ringerPersonLoud();
        setAndSheet();
        takeLeaveMend();
        minutes();
        townspeople();
        watches();
        undo();
        lastsAndHush();
        teams();
        silenceAndCrowd();
        swapAndReady();
        rotas();
        change();
        doubts();
        laws();
        whoRang();
        sickness();
        councilAndUnion();
        years();
        kept();
        countsAndRows();
        System.out.println("PromiseTest: " + asked + " answers, " + wrong + " wrong");
        if (wrong > 0) {
            System.exit(1);
        }
    }

    // ---- helpers

    static void is(String what, long got, long due) {
        asked++;
        if (got != due) {
            wrong++;
            System.out.println("promise " + promise + ": " + what + " is " + got + ", due is " + due);
        }
    }

    static void is(String what, boolean got, boolean due) {
        is(what, got ? 1 : 0, due ? 1 : 0);
    }

    /** THE ROW is just these numbers. */
    static void row(MustNotStop x, String what, long... due) {
        is(what + ": numbers of the ROW", x.count(15), due.length);
        for (int i = 0; i < due.length && i < x.count(15); i++) {
            is(what + ": row " + i, x.row(i), due[i]);
        }
        noRow(x, what, due.length);
        noRow(x, what, -1);
    }

    static void noRow(MustNotStop x, String what, int i) {
        asked++;
        try {
            long got = x.row(i);
            wrong++;
            System.out.println("promise " + promise + ": " + what + ": row " + i + " is " + got + ", due is none");
        } catch (NoSuchElementException e) {
            return;
        }
    }

    static void noRinger(MustNotStop x, int ringer, int what) {
        asked++;
        try {
            x.ringer(ringer, what);
            wrong++;
            System.out.println("promise " + promise + ": ringer(" + ringer + ", " + what + ") is due to throw");
        } catch (NoSuchElementException e) {
            return;
        }
    }

    static void noPerson(MustNotStop x, int person, int what) {
        asked++;
        try {
            x.person(person, what);
            wrong++;
            System.out.println("promise " + promise + ": person(" + person + ", " + what + ") is due to throw");
        } catch (NoSuchElementException e) {
            return;
        }
    }

    static MustNotStop text(MustNotStop x, String text) {
        x.end(0);
        for (int i = 0; i < text.length(); i += 4) {
            int v = 0;
            for (int j = 0; j < 4; j++) {
                v = v << 8 | (i + j < text.length() ? text.charAt(i + j) : 0);
            }
            x.sign(v);
        }
        x.end(text.length());
        return x;
    }

    static MustNotStop bell(String ringers, String town, String rule) {
        MustNotStop x = new MustNotStop();
        text(x, ringers).ringers();
        text(x, town).town();
        text(x, rule).rule();
        return x;
    }

    static int tired(MustNotStop x, int ringer) {
        return x.ringer(ringer, 2);
    }

    static void state(MustNotStop x, String what, int rope, int strands, int now, int rung, int silent, int stops, int paid,
        int doubting) {
        int[] due = {rope, strands, now, rung, silent, stops, paid, doubting};
        for (int i = 0; i < due.length; i++) {
            is(what + ": count(" + (i + 2) + ")", x.count(i + 2), due[i]);
        }
    }

    // ---- promises

    static void newObject() {
        promise = 1;
        MustNotStop x = new MustNotStop();
        int[] due = {0, 0, 0, 50, 0, 0, 0, 0, 0, 0, 5, 0, 2, 0, 0, 0, 0};
        for (int i = 0; i < due.length; i++) {
            is("count(" + i + ")", x.count(i), due[i]);
        }
        noRinger(x, 0, 0);
        noPerson(x, 0, 0);
        row(x, "a new one");
        is("NONE", MustNotStop.NONE, -1);
    }

    static void texts() {
        promise = 2;
        MustNotStop x = new MustNotStop();
        is("sign", x.sign('5' << 24 | '0' << 16 | ';' << 8 | '9'), 4);
        is("end", x.end(4), true);
        is("sign", x.sign('1' << 24), 8);
        is("end", x.end(5), true);
        is("the highest byte first", x.ringers(), 2);
        is("STRENGTH", x.ringer(0, 0), 5);
        is("FEE", x.ringer(1, 1), 1);
        is("a high byte is a sign like others", x.sign(-1), 4);
        is("..", x.ringers(), -1);
        for (int i = 1; i <= 20; i++) {
            is("sign", x.sign(0), 4 * i);
        }
        is("80 are all", x.sign(0), -1);
        is("nothing came", x.count(16), 80);
        is("end", x.end(77), true);
        is("81", x.sign(0), -1);
        is("..", x.count(16), 77);
        is("end", x.end(76), true);
        is("80", x.sign(0), 80);

        promise = 3;
        is("all", x.end(80), true);
        is("more than there are", x.end(81), false);
        is("below 0", x.end(-1), false);
        is("nothing changed", x.count(16), 80);
        is("fewer", x.end(3), true);
        is("..", x.count(16), 3);
        is("more than there are", x.end(4), false);
        is("none", x.end(0), true);
        is("..", x.count(16), 0);
        text(x, "10;2").end(2);
        is("the first alone", x.ringers(), 1);
        is("..", x.count(0), 3);
    }

    static void ringersAndTown() {
        promise = 4;
        MustNotStop x = new MustNotStop();
        is("three", text(x, "35;17;94").ringers(), 3);
        is("THE TEXT is empty", x.count(16), 0);
        is("an empty one", x.ringers(), 0);
        is("count", x.count(0), 3);
        is("STRENGTH", x.ringer(2, 0), 9);
        is("FEE", x.ringer(2, 1), 4);
        is("TIRED", x.ringer(2, 2), 0);
        is("not at THE ROPE", x.ringer(2, 3), 0);
        String[] bad = {"05", "5", "5x", "35;", "35,17", "350", ";", "35;;", "35;1", "35;07", "x", "3:", "3/", ":1", "35;1\u00f5"};
        int[] at = {0, 1, 1, 3, 2, 2, 0, 3, 4, 3, 0, 1, 1, 0, 4};
        for (int i = 0; i < bad.length; i++) {
            is(bad[i], text(x, bad[i]).ringers(), -1 - at[i]);
            is(bad[i] + ": THE TEXT is empty", x.count(16), 0);
            is(bad[i] + ": nothing came", x.count(0), 3);
        }
        is("one more each", text(x, "11;12;13;14").ringers(), 4);
        is("room for one", text(x, "21;22").ringers(), -4);
        is("nothing of it came", x.count(0), 7);
        is("the first sign that can't stand there", text(x, "21;2x").ringers(), -4);
        is("a ; can stand, its end not", text(x, "21;").ringers(), -4);
        is("the eighth", text(x, "29").ringers(), 1);
        is("no room", text(x, "11").ringers(), -1);
        is("no room, whatever else", text(x, "1x").ringers(), -1);
        is("an empty one", x.ringers(), 0);
        x = new MustNotStop();
        is("more than 23", text(x, "11;22;33;44;55;66;77;88;").ringers(), -24);
        is("more than 23", text(x, "11;22;33;44;55;66;77;88;99").ringers(), -24);
        is("more than 23", text(x, "11;22;33;44;55;66;77;881").ringers(), -24);
        is("an earlier one", text(x, "11;22;33;44;55;66;77;8x;").ringers(), -23);
        is("none", x.count(0), 0);
        is("23", text(x, "11;22;33;44;55;66;77;88").ringers(), 8);

        promise = 5;
        is("three", text(x, "15;27;39").town(), 3);
        is("THE TEXT is empty", x.count(16), 0);
        is("an empty one", x.town(), 0);
        is("EAR", x.person(1, 0), 2);
        is("NEED", x.person(1, 1), 7);
        is("not at first", x.person(1, 2), 0);
        is("EAR is not 0", text(x, "10;05").town(), -4);
        is("too early", text(x, "1").town(), -2);
        is("..", text(x, "10;").town(), -4);
        is("THE TEXT is empty", x.count(16), 0);
        is("room for five", text(x, "11;12;13;14;15;16").town(), -16);
        is("more than 23", text(x, "11;22;33;44;55;66;77;88;").town(), -16);
        is("nothing of it", x.count(1), 3);
        is("five", text(x, "11;12;13;14;15").town(), 5);
        is("no room", text(x, "11").town(), -1);
        is("RINGERS are as they were", x.count(0), 8);
        is("more than 23", text(new MustNotStop(), "11;22;33;44;55;66;77;88;").town(), -24);
    }

    static void rules() {
        promise = 6;
        MustNotStop x = bell("35;17;94", "", "");
        x.take(0);
        x.minutes(2);
        // s 3, t 4, n 1, w 5, f 0, r 50, m 2
        Object[] rules = {"s", 3, "t", 4, "n*100", 100, "w", 5, "f", 0, "r", 50, "m", 2, "1+2*3", 7, "(1+2)*3", 9,
            "7-2-1", 4, "100/7/2", 7, "7/0", 0, "7/f+1", 1, "(0-7)/2", -3, "-7/2", -3, "7/-2", -3, "--7", 7, "-s*-2", 6,
            "---7", -7, "1--1", 2, "1<2", 1, "2<1", 0, "2<2", 0, "2>1", 1, "1>2", 0, "2>2", 0, "3=s", 1, "4=s", 0,
            "s+1>2+1", 1, "1<2+3", 1, "2*3=6", 1, "-1<0", 1, "(1<2)<3", 1, "(1<2)=(2>1)", 1, "007", 7, "999", 999,
            "999*999*999*999", 999 * 999 * 999 * 999, "((((s))))", 3, "((((s))))+((((t))))", 7, "8-(s-(1-(t-2)))", 4,
            "2*3+4*5-6/3", 24, "12/5*5", 10, "s*10-t-w*3-f", 11, "(1<2)+(2<3)", 2, "(2-1)<(3-1)", 1, "-(s+t)", -7,
            "0-2-3-4", -9, "64/4/4/4", 1, "1<(2<3)", 0};
        for (int i = 0; i < rules.length; i += 2) {
            is((String) rules[i], text(x, (String) rules[i]).rule(), 0);
            is("THE TEXT is empty", x.count(16), 0);
            is("LOUD by " + rules[i], x.loud(), (Integer) rules[i + 1]);
        }
        is("the empty one", x.rule(), 0);
        is("is s*10-t-w*3-f", x.loud(), 11);
        x.set(0, 4);
        x.set(1, 3);
        x.mend(9);
        is("WEIGHT, FROST, STRANDS", text(x, "w*100+f*999+r").rule(), 0);
        is("LOUD", x.loud(), 3456);
        x.set(0, 5);
        x.set(1, 0);
        text(x, "7").rule();
        String forty = "1+1+1+1+1+1+1+1+1+1+1+1+1+1+1+1+1+1+1+10";
        Object[] bad = {"+", 0, "s+", 2, "s s", 1, "1234", 3, "1<2<3", 3, "1<2=3", 3, "1>2+1>3", 5, "s)", 1, "(s", 2,
            "(((((s", 4, "((((1<2)))<3)<4<5", 15, "()", 1, "x", 0, "2s", 1, "s2", 1, "-", 1, "1+*2", 2, "(1<2<3)", 4,
            "s(", 1, "(s))", 3, "1+(", 3, "S", 0, "<1", 0, "1<", 2, "=", 0, "12 ", 2, "1\u00e9", 1, "(s)1", 3, "(s)s", 3, "(1)2", 3, "1+(2)3", 5, "12+3456", 6,
            forty + "+", 40, forty + "1", 40, forty + "x", 40, "1" + forty, 40, "1234" + forty, 3, "x" + forty, 0,
            "1+1+1+1+1+1+1+1+1+1+1+1+1+1+1+1+1+1+1+1+1", 40, "1+1+1+1+1+1+1+1+1+1+1+1+1+1+1+1+1+1+1+1+", 40,
            "(1+1+1+1+1+1+1+1+1+1+1+1+1+1+1+1+1+1+1+1", 40, "(1+1+1+1+1+1+1+1+1+1+1+1+1+1+1+1+1+1+1+1)", 40};
        for (int i = 0; i < bad.length; i += 2) {
            is((String) bad[i], text(x, (String) bad[i]).rule(), -1 - (Integer) bad[i + 1]);
            is("THE TEXT is empty", x.count(16), 0);
            is("THE RULE stays", x.loud(), 7);
        }
        is("40 signs", text(x, forty).rule(), 0);
        is("LOUD", x.loud(), 29);
        is("a minus before each", text(x, "-".repeat(39) + "5").rule(), 0);
        is("LOUD", x.loud(), -5);
    }

    static void ringerPersonLoud() {
        promise = 7;
        MustNotStop x = bell("35;17;94", "46;50", "");
        x.take(1);
        x.minutes(1);
        int[][] due = {{3, 5, 0, 0, 15}, {1, 7, 2, 1, -7}, {9, 4, 0, 0, 75}};
        for (int i = 0; i < 3; i++) {
            for (int what = 0; what <= 4; what++) {
                is("ringer(" + i + ", " + what + ")", x.ringer(i, what), due[i][what]);
            }
            noRinger(x, i, 5);
            noRinger(x, i, -1);
        }
        noRinger(x, 3, 0);
        noRinger(x, -1, 0);
        noRinger(x, 3, 9);

        promise = 8;
        is("EAR", x.person(0, 0), 4);
        is("NEED", x.person(0, 1), 6);
        is("doubts", x.person(0, 2), 0);
        x.minutes(3);
        is("doubts", x.person(0, 2), 1);
        is("doubts", x.person(1, 2), 0);
        noPerson(x, 0, 3);
        noPerson(x, 0, -1);
        noPerson(x, 2, 0);
        noPerson(x, -1, 0);

        promise = 9;
        x = bell("35;17;94;90", "", "");
        is("nobody", x.loud(), 0);
        x.take(0);
        is("one", x.loud(), 15);
        x.take(2);
        is("two", x.loud(), 105);
        x.take(1);
        is("three", x.loud(), 115);
        x.set(0, 30);
        x.set(1, 9);
        is("heavier, colder", x.loud(), 31);
        is("the last but one alone", x.ringer(2, 4), -9);
        text(x, "5").rule();
        x.leave(0);
        x.leave(1);
        x.leave(2);
        is("nobody, whatever THE RULE", x.loud(), 0);
        x.take(0);
        for (int i = 0; i < 5; i++) {
            x.minutes(100);
        }
        is("STRANDS", x.count(3), 0);
        is("without STRANDS", x.loud(), 0);
        is("..", x.ringer(0, 4), 0);
        x.mend(1);
        is("mended", x.loud(), 5);
    }

    static void setAndSheet() {
        promise = 10;
        MustNotStop x = new MustNotStop();
        int[][] good = {{0, 30, 5}, {0, 1, 30}, {0, 7, 1}, {1, 9, 0}, {1, 0, 9}, {1, 3, 0}, {2, 9, 2}, {2, 0, 9}, {2, 4, 0}};
        for (int[] g : good) {
            is("set(" + g[0] + ", " + g[1] + ")", x.set(g[0], g[1]), g[2]);
            is("..", x.count(10 + g[0]), g[1]);
        }
        int[][] bad = {{0, 0}, {0, 31}, {0, -1}, {1, -1}, {1, 10}, {2, -1}, {2, 10}, {3, 1}, {-1, 1}};
        for (int[] b : bad) {
            is("set(" + b[0] + ", " + b[1] + ")", x.set(b[0], b[1]), -1);
        }
        is("WEIGHT", x.count(10), 7);
        is("FROST", x.count(11), 3);
        is("MOST", x.count(12), 4);

        promise = 11;
        x = bell("35;17;94", "", "");
        is("ints", x.sheet(2, 3, 10, 20), 90);
        is("0", tired(x, 0), 10);
        is("1", tired(x, 1), 30);
        is("2", tired(x, 2), 50);
        is("n below 0", x.sheet(0, -1, 1, 1), -2);
        is("nothing changed", tired(x, 2), 50);
        is("another kind", x.sheet(4, 2, 1, 1), -1);
        is("another kind", x.sheet(-1, 2, 1, 1), -1);
        is("another kind first", x.sheet(4, -1, 1, 1), -1);
        is("n above 8", x.sheet(2, 9, 1, 1), -1);
        is("n above 8 first", x.sheet(3, 9, 1, 1), -1);
        is("nothing changed", tired(x, 2), 50);
        is("missing", x.sheet(3, 2, 7, 0), -3);
        is("all 0", tired(x, 0) + tired(x, 1) + tired(x, 2), 0);
        is("ints", x.sheet(2, 8, 7, 0), 21);
        is("missing, n below 0", x.sheet(3, -5, 7, 0), -3);
        is("all 0", tired(x, 0) + tired(x, 1) + tired(x, 2), 0);
        is("those behind it have 0", x.sheet(2, 8, 9, 0), 27);
        is("..", x.sheet(2, 1, 9, 0), 9);
        is("..", tired(x, 1), 0);
        is("no entries", x.sheet(1, 0, 9, 0), 0);
        is("bytes", x.sheet(0, 3, 126, 1), 198);
        is("126", tired(x, 0), 99);
        is("128 is -128", tired(x, 2), 0);
        is("256 is 0, 261 is 5", x.sheet(0, 2, 256, 5), 5);
        is("-251 is 5", x.sheet(0, 1, -251, 0), 5);
        is("shorts", x.sheet(1, 3, 32766, 1), 198);
        is("32768 is -32768", tired(x, 2), 0);
        is("65541 is 5", x.sheet(1, 1, 65541, 0), 5);
        is("300 as a short", x.sheet(1, 1, 300, 0), 99);
        is("65541 as an int", x.sheet(2, 1, 65541, 0), 99);
        is("below 0", x.sheet(2, 3, -4, 3), 2);
        is("ints go round", x.sheet(2, 2, Integer.MAX_VALUE, 1), 99);
        is("..", tired(x, 1), 0);
        row(x, "sheet tells none");
    }

    static void takeLeaveMend() {
        promise = 12;
        MustNotStop x = bell("35;17;94;90", "", "");
        is("first", x.take(2), 1);
        is("it is there", x.take(2), -2);
        is("second", x.take(0), 2);
        is("third", x.take(3), 3);
        is("3 are", x.take(1), -3);
        is("it is there", x.take(0), -2);
        is("none such", x.take(4), -1);
        is("none such", x.take(-1), -1);
        is("none such", x.take(33), -1);
        is("THE ROPE", x.count(2), 13);
        is("kept", x.count(14), 3);

        promise = 13;
        is("one leaves", x.leave(0), 2);
        is("THE ROPE", x.count(2), 12);
        is("not there", x.leave(0), -2);
        is("none such", x.leave(4), -1);
        is("none such", x.leave(-1), -1);
        is("one leaves", x.leave(3), 1);
        is("one leaves", x.leave(2), 0);
        is("kept", x.count(14), 6);
        is("THE ROPE", x.count(2), 0);

        promise = 14;
        is("1", x.mend(1), 51);
        is("0", x.mend(0), -1);
        is("100", x.mend(100), -1);
        is("-1", x.mend(-1), -1);
        is("STRANDS", x.count(3), 51);
        is("47", x.mend(47), 98);
        is("99 at most", x.mend(99), 99);
        is("99 at most", x.mend(1), 99);
        is("kept", x.count(14), 10);
    }

    static void minutes() {
        promise = 15;
        MustNotStop x = bell("35;17;94", "", "");
        x.take(0);
        is("rung till 30-t-15 is 0", x.minutes(10), 8);
        row(x, "minutes", 0, 0);
        state(x, "minutes", 1, 50, 10, 8, 2, 0, 50, 0);
        is("TIRED", tired(x, 0), 20);
        is("one more", x.minutes(1), 0);
        row(x, "minutes", 1, 0);
        is("STOPS but once", x.minutes(3), 0);
        row(x, "minutes", 0, 0);
        is("..", x.count(7), 1);
        is("none", x.minutes(0), 0);
        row(x, "minutes", 0, 0);
        is("kept, too", x.count(14), 5);
        is("121", x.minutes(121), -1);
        is("-1", x.minutes(-1), -1);
        is("NOW", x.count(4), 14);
        x.take(2);
        x.leave(0);
        is("rung again", x.minutes(1), 1);
        is("SILENT", x.count(6), 0);
        is("rests", tired(x, 0), 27);
        x.minutes(1);
        is("10 rung: a STRAND less", x.count(3), 49);
        is("120", x.minutes(120), 36);
        is("TIRED 99 at most", tired(x, 2), 99);
        is("TIRED 0 at least", tired(x, 0), 0);
        is("STRANDS", x.count(3), 46);
        is("PAID", x.count(8), 70 + 122 * 4);
        x = bell("90;91;92", "", "m");
        x.take(0);
        x.take(1);
        x.take(2);
        is("NOW by 60: not rung in each first one", x.minutes(120), 118);
        is("PAID: FEES of all", x.count(8), 360);
        is("TIRED of all", tired(x, 1), 99);
        x = bell("35", "", "m<2");
        x.take(0);
        x.set(2, 0);
        is("MOST 0", x.minutes(61), 3);
        row(x, "MOST 0", 1, 0);
        x = bell("35", "", "1-2");
        x.take(0);
        is("LOUD below 0", x.minutes(4), 0);
        row(x, "LOUD below 0", 1, 0);
        x = bell("35", "", "5");
        x.take(0);
        for (int i = 0; i < 5; i++) {
            x.minutes(100);
        }
        is("500 rung", x.count(5), 500);
        is("STRANDS", x.count(3), 0);
        is("no more", x.minutes(9), 0);
        is("0 at least", x.count(3), 0);
    }

    static void townspeople() {
        promise = 15;
        MustNotStop x = bell("", "30;91;92;90", "");
        is("three silent ones", x.minutes(2), 0);
        row(x, "none yet", 0, 0);
        x.minutes(1);
        row(x, "the EAR of 3", 1, 1);
        x.minutes(1);
        row(x, "NEED 1, of those ahead of it", 0, 2);
        x.minutes(1);
        row(x, "NEED 2, of those ahead of it", 0, 4);
        x.minutes(3);
        row(x, "NEED 0: no others", 0, 0);
        x.minutes(1);
        row(x, "the EAR of 9", 0, 8);
        is("all", x.count(9), 15);
        x = bell("95", "40;31", "");
        x.minutes(3);
        is("EAR 3", x.count(9), 2);
        x.take(0);
        x.minutes(5);
        is("from then on", x.count(9), 2);
        x.leave(0);
        x.minutes(4);
        row(x, "began in these", 1, 1);
        is("both", x.count(9), 3);
    }

    static void watches() {
        promise = 16;
        MustNotStop x = bell("35;17;94;90", "", "5");
        is("an empty one", x.watch(), 0);
        row(x, "an empty one", 0, 0);
        is("no undo of it", x.count(14), 0);
        is("acts", text(x, "t0;3;c02;m9;12").watch(), 5);
        row(x, "acts", 0, 0);
        state(x, "acts", 4, 58, 15, 15, 0, 0, 63, 0);
        is("as one", x.count(14), 1);
        is("THE TEXT is empty", x.count(16), 0);
        is("refused at the third", text(x, "l2;4;l2;9").watch(), 2);
        row(x, "refused at the third", 1, 1);
        is("those ahead stay", x.count(4), 19);
        is("as one", x.count(14), 2);
        is("refused at the first", text(x, "l2").watch(), 0);
        row(x, "refused at the first", 1, 0);
        is("none is kept", x.count(14), 2);
        Object[] refused = {"t9", "t4", "l9", "m0", "m00", "121", "999", "c00", "c91", "c09"};
        for (Object r : refused) {
            is((String) r, text(x, (String) r).watch(), 0);
            row(x, (String) r, 1, 0);
            is(r + ": nothing", x.count(2), 0);
        }
        is("numbers", text(x, "0;00;000;007;m1;m02;120").watch(), 7);
        row(x, "numbers", 0, 0);
        is("NOW", x.count(4), 146);
        is("STRANDS", x.count(3), 61);
        is("three", text(x, "t0;t1;t2").watch(), 3);
        is("one for another", text(x, "c13").watch(), 1);
        is("THE ROPE", x.count(2), 13);
        is("the second is there: neither", text(x, "c02").watch(), 0);
        is("THE ROPE", x.count(2), 13);
        is("the first is not there: neither", text(x, "c13").watch(), 0);
        is("THE ROPE", x.count(2), 13);
        is("none such: neither", text(x, "c08").watch(), 0);
        is("THE ROPE", x.count(2), 13);
        int kept = x.count(14);
        is("itself", text(x, "c00").watch(), 1);
        is("one ACT is kept", x.count(14), kept + 1);
        is("THE ROPE", x.count(2), 13);
        is("3 are there", text(x, "t1").watch(), 0);

        x = bell("35;17;94;90", "", "");
        String sixty = "1;1;1;1;1;1;1;1;1;1;1;1;1;1;1;1;1;1;1;1;1;1;1;1;1;1;1;1;1;1;";
        Object[] bad = {"x", 0, "t", 1, "tt", 1, "t12", 2, "l", 1, "l1x", 2, "c", 1, "c1", 2, "c123", 3, "cx", 1, "c1;", 2,
            "m", 1, "m;", 1, "m123", 3, "1234", 3, ";", 0, "1;", 2, "1;;", 2, "1t", 1, "t1;l", 4, "1 ", 1, "t0;5;t1x", 7,
            "m5m", 2, "-1", 0, "1;c", 3, "1;c2", 4, "12;t\u00b1", 4,
            sixty, 60, sixty + "1", 60, sixty + "x", 60, "1" + sixty.substring(0, 59) + "1", 60,
            sixty.substring(0, 58) + "x;1", 58, sixty.substring(0, 58) + "t;1", 59, sixty.substring(0, 58) + "c1", 60,
            sixty.substring(0, 58) + "c11", 60, sixty.substring(0, 56) + "1111", 59};
        for (int i = 0; i < bad.length; i += 2) {
            is((String) bad[i], text(x, (String) bad[i]).watch(), -1 - (Integer) bad[i + 1]);
            is("nothing is done", x.count(2) + x.count(4), 0);
            is("THE TEXT is empty", x.count(16), 0);
        }
        row(x, "the ROW stays");
        is("60 signs", text(x, sixty.substring(0, 59) + "").watch(), 30);
        is("60 signs", text(x, sixty.substring(0, 58) + "12").watch(), 30);
        is("NOW", x.count(4), 71);
    }

    static void undo() {
        promise = 17;
        MustNotStop x = bell("35;17;94", "10", "");
        is("none", x.undo(), -1);
        x.take(0);
        x.minutes(9);
        x.mend(5);
        x.leave(0);
        x.minutes(3);
        state(x, "five", 0, 55, 12, 8, 4, 1, 45, 1);
        is("five", x.count(14), 5);
        is("undone", x.undo(), 4);
        state(x, "four", 0, 55, 9, 8, 1, 0, 45, 1);
        is("TIRED", tired(x, 0), 18);
        is("undone", x.undo(), 3);
        is("THE ROPE", x.count(2), 1);
        is("undone", x.undo(), 2);
        is("STRANDS", x.count(3), 50);
        x.sheet(2, 3, 40, 0);
        is("undone", x.undo(), 1);
        state(x, "one", 1, 50, 0, 0, 0, 0, 0, 0);
        is("TIRED as ahead of it", tired(x, 0) + tired(x, 1), 0);
        is("undone", x.undo(), 0);
        is("THE ROPE", x.count(2), 0);
        is("none", x.undo(), -1);
        x.take(9);
        x.leave(1);
        x.mend(0);
        x.minutes(-1);
        is("refused ones are not kept", x.undo(), -1);
        for (int i = 1; i <= 17; i++) {
            x.minutes(1);
        }
        is("15 are kept", x.count(14), 15);
        for (int i = 14; i >= 0; i--) {
            is("undone", x.undo(), i);
        }
        is("the latest ones", x.count(4), 2);
        is("none", x.undo(), -1);
        x.mend(1);
        text(x, "t0;5;m1").watch();
        is("A WATCH as one", x.undo(), 1);
        state(x, "a watch undone", 0, 51, 2, 0, 2, 0, 0, 1);
        is("empty ones forget nothing", x.ringers() + x.town(), 0);
        is("..", x.count(14), 1);
        is("refused ones neither", text(x, "0").ringers() + text(x, "0").town(), -2);
        is("..", x.count(14), 1);
        undoneAlone();
        x.keep(0);
        text(x, "11").town();
        is("town() forgets them", x.count(14), 0);
        x.mend(1);
        is("a refused again() does not", x.again(0), false);
        is("..", x.count(14), 1);
        text(x, "11").ringers();
        is("ringers() forgets them", x.undo(), -1);
        x.keep(0);
        x.mend(1);
        x.again(0);
        is("again() forgets them", x.undo(), -1);
    }

    /** Each deed is undone to what was just ahead of it, whatever was undone or set before. */
    static void undoneAlone() {
        for (int deed = 0; deed < 5; deed++) {
            MustNotStop x = bell("35;17;94", "10", "");
            x.take(1);
            x.years(1, 9);
            x.minutes(7);
            x.undo();
            x.take(0);
            x.minutes(4);
            x.again(0);
            x.keep(1);
            x.sheet(2, 3, 11, 11);
            x.keep(2);
            x.again(2);
            is("none", x.count(14), 0);
            if (deed == 0) {
                x.take(2);
            } else if (deed == 1) {
                x.leave(0);
            } else if (deed == 2) {
                x.mend(7);
            } else if (deed == 3) {
                x.minutes(3);
            } else {
                text(x, "t2;8;m3").watch();
            }
            is("one", x.count(14), 1);
            is("undone", x.undo(), 0);
            state(x, "deed " + deed, 3, 50, 4, 4, 0, 0, 48, 0);
            is("TIRED", tired(x, 0) * 10000 + tired(x, 1) * 100 + tired(x, 2), 112233);
        }
    }

    static void lastsAndHush() {
        promise = 18;
        MustNotStop x = bell("35;17;94", "", "");
        is("nobody", x.lasts(), 3);
        row(x, "nobody", 0, 0);
        x.take(0);
        is("8 rung, 3 silent", x.lasts(), 11);
        row(x, "8 rung, 3 silent", 8, 55);
        x.minutes(10);
        is("the next one", x.lasts(), 1);
        row(x, "the next one", 0, 5);
        x.minutes(1);
        x.set(0, 4);
        is("it stopped already", x.lasts(), -2);
        row(x, "the ROW stays", 1, 0);
        is("questions change nothing", x.count(4), 11);
        x = bell("91", "", "5");
        x.take(0);
        x.mend(49);
        x.set(2, 8);
        is("999", x.lasts(), 999);
        row(x, "999", 990, 999);
        x.set(2, 9);
        is("not in 999", x.lasts(), -2);

        promise = 19;
        x = bell("35;17;94", "", "");
        x.minutes(2);
        is("the next one", x.hush(), 0);
        row(x, "the next one", 3);
        x.take(0);
        is("the ninth", x.hush(), 8);
        row(x, "the ninth", 1);
        is("questions change nothing", x.count(4), 2);
        x = bell("91", "", "5");
        x.take(0);
        x.mend(49);
        is("the rope is gone", x.hush(), 990);
        row(x, "the rope is gone", 1);
    }

    static void teams() {
        promise = 20;
        MustNotStop x = bell("31;30;42;24", "", "s-6");
        is("two", x.team(5), 2);
        row(x, "two: 1 and 2", 6, 2);
        text(x, "s-4").rule();
        is("two", x.team(1), 2);
        row(x, "the least FEES: 0 and 1", 3, 1);
        text(x, "s-3").rule();
        is("one", x.team(120), 1);
        row(x, "one", 4, 2);
        text(x, "s-2").rule();
        is("one", x.team(1), 1);
        row(x, "the least FEES", 2, 0);
        text(x, "s-9").rule();
        is("three", x.team(1), 3);
        row(x, "three: 0, 1, 2", 7, 3);
        text(x, "s-10").rule();
        is("by none", x.team(1), -2);
        row(x, "the ROW stays", 7, 3);
        is("0", x.team(0), -1);
        is("121", x.team(121), -1);
        is("all three", bell("31;31;42", "", "s-9").team(1), 3);
        x = bell("31;31;42", "", "s-6");
        x.take(2);
        is("two", x.team(1), 2);
        row(x, "the least bits", 5, 3);
        x = bell("30;40", "", "s*3-t");
        x.sheet(2, 2, 0, 9);
        is("TIRED as they are", x.team(5), 1);
        row(x, "0", 1, 0);
        is("none alone, nor both", x.team(6), -2);

        promise = 21;
        x = bell("31;42;40", "", "s*3-t");
        is("12-t", x.strongest(1), 6);
        row(x, "the least", 2);
        is("24-2t", x.strongest(2), 6);
        row(x, "the least", 3);
        is("33-3t", x.strongest(3), 6);
        row(x, "all", 7);
        x.sheet(2, 2, 6, -3);
        is("TIRED as they are", x.strongest(1), 6);
        row(x, "the rested one", 4);
        is("4", x.strongest(4), -1);
        is("0", x.strongest(0), -1);
        x = bell("91;91", "", "5");
        x.mend(49);
        is("till the rope is gone", x.strongest(2), 990);
        row(x, "both", 3);
        is("not so many", x.strongest(3), -2);
        row(x, "the ROW stays", 3);
        x = bell("91", "", "0");
        is("none at all", x.strongest(1), 0);
        row(x, "it", 1);
    }

    static void silenceAndCrowd() {
        promise = 22;
        MustNotStop x = bell("35;17;94", "", "");
        is("nobody", x.silence(5), 5);
        row(x, "nobody", 5, 50);
        x.take(0);
        is("rung", x.silence(8), 0);
        row(x, "rung", 0, 50);
        is("3 behind 8", x.silence(11), 3);
        row(x, "3 behind 8", 11, 50);
        x.leave(0);
        x.minutes(4);
        x.take(2);
        is("now, and none longer", x.silence(30), 4);
        row(x, "now, and none longer", 0, 47);
        x.leave(2);
        is("one MINUTE", x.silence(1), 5);
        is("it goes on", x.silence(2), 6);
        row(x, "it goes on", 2, 50);
        is("0", x.silence(0), -1);
        is("1000", x.silence(1000), -1);
        is("999", x.silence(999), 1003);
        x = bell("91", "", "m<50");
        x.take(0);
        is("got so long first", x.silence(200), 10);
        row(x, "got so long first", 60, 33);
        is("questions change nothing", x.count(4) + x.count(6), 0);

        promise = 23;
        x = bell("95", "30;91;92;90", "");
        is("none yet", x.crowd(2), 0);
        row(x, "none yet", 0, 0);
        is("one", x.crowd(3), 1);
        row(x, "one", 3, 1);
        is("three", x.crowd(8), 7);
        row(x, "three", 5, 3);
        is("all", x.crowd(999), 15);
        row(x, "all", 9, 4);
        x.minutes(3);
        is("now", x.crowd(0), 1);
        row(x, "now", 0, 1);
        x.take(0);
        is("the others' doubt goes on", x.crowd(10), 7);
        row(x, "the others' doubt goes on", 2, 3);
        is("-1", x.crowd(-1), -1);
        is("1000", x.crowd(1000), -1);
        is("questions change nothing", x.count(9), 1);
    }

    static void swapAndReady() {
        promise = 24;
        MustNotStop x = bell("31;42;40;10", "", "s*3-t");
        is("nobody to leave", x.swap(), -2);
        x.take(0);
        is("12-t", x.swap(), 6);
        row(x, "the least row", 0, 1);
        x.take(3);
        is("21-2t by 1 and 0, or 2 and 0", x.swap(), 6);
        row(x, "the least row", 3, 1);
        x.take(1);
        x.sheet(2, 4, 30, 0);
        is("not even the next one", x.swap(), 0);
        row(x, "the least row", 0, 2);
        is("questions change nothing", x.count(2), 11);
        x = bell("91;91", "", "5");
        x.take(0);
        x.take(1);
        is("nobody to take it", x.swap(), -2);
        row(x, "the ROW stays");
        x.leave(0);
        x.mend(49);
        is("till the rope is gone", x.swap(), 990);
        row(x, "1 for 0", 1, 0);
        x = bell("10;50;90;70", "", "s-t");
        x.take(0);
        x.take(1);
        is("14-4t", x.swap(), 4);
        row(x, "the weaker one for the stronger one", 0, 2);
        x = bell("70;20;10;60", "", "s-t");
        x.take(0);
        x.take(2);
        is("13-4i", x.swap(), 4);
        row(x, "the weakest one for the strongest one", 2, 3);

        promise = 25;
        x = bell("31;42;40", "", "s*3-t");
        x.sheet(2, 3, 10, 0);
        is("t is 4 or less", x.ready(0, 3), 6);
        row(x, "TIRED when it begins", 4);
        x.take(0);
        x.take(1);
        is("it rests, not at THE ROPE", x.ready(0, 5), 10);
        row(x, "TIRED when it begins", 0);
        is("alone then", x.ready(2, 1), 0);
        row(x, "TIRED when it begins", 10);
        is("not by 120", x.ready(0, 6), -2);
        row(x, "the ROW stays", 10);
        is("none such", x.ready(3, 1), -1);
        is("none such", x.ready(-1, 1), -1);
        is("0", x.ready(0, 0), -1);
        is("61", x.ready(0, 61), -1);
        is("questions change nothing", x.count(2) * 100 + tired(x, 0), 310);
        text(x, "50-r").rule();
        is("the others wear the rope: never", x.ready(2, 1), -2);
        text(x, "50-r+t").rule();
        is("the others go on", x.ready(2, 1), 0);
        x = bell("91;91", "", "r<50");
        x.take(1);
        is("a rope that never wears", x.ready(0, 1), -2);
        text(x, "(t=0)+(r<50)").rule();
        is("60", x.ready(0, 60), -2);
        x.minutes(1);
        text(x, "1-t/9").rule();
        x.sheet(2, 2, 99, 0);
        is("91 MINUTES of rest", x.ready(0, 1), 91);
        row(x, "TIRED 8", 8);
        text(x, "m=0").rule();
        is("59 more to the hour", x.ready(0, 1), 59);
        row(x, "TIRED 40", 40);
        x = bell("91;91", "", "(m=59)*(r<44)");
        is("nobody rings meanwhile", x.ready(0, 1), -2);
        x = bell("91;91", "", "(n=2)+(r<38)");
        x.take(0);
        x.take(1);
        is("the other alone is not two", x.ready(0, 1), -2);
        // The other one rings 120 MINUTES: 12 STRANDS less behind the last.
        x = bell("91;21", "", "(s=2)+(s=9)*(r<39)");
        x.take(1);
        is("by 120", x.ready(0, 1), 120);
        text(x, "(s=2)+(s=9)*(r<38)").rule();
        is("not by 120", x.ready(0, 1), -2);
        x.minutes(1);
        text(x, "(s=2)+(s=9)*(r<39)").rule();
        is("119 more", x.ready(0, 1), 119);
        x.minutes(8);
        text(x, "(s=2)+(s=9)*(r<38)").rule();
        is("121 are too many", x.ready(0, 1), -2);
        x.minutes(1);
        is("120", x.ready(0, 1), 120);
    }

    static void rotas() {
        promise = 26;
        MustNotStop x = bell("25;23", "", "s-t");
        x.set(2, 0);
        is("one shift", x.rota(1, 1), 1);
        row(x, "one shift", 0);
        is("two by turns", x.rota(2, 1), 2);
        row(x, "two by turns", 0, 1);
        is("three", x.rota(3, 1), 2);
        row(x, "three", 0, 1, 0);
        is("four", x.rota(4, 1), 2);
        row(x, "four", 0, 1, 0, 1);
        is("it stops in the second MINUTE", x.rota(1, 2), -2);
        row(x, "the ROW stays", 0, 1, 0, 1);
        x.set(2, 1);
        is("a silent one between", x.rota(1, 2), 1);
        row(x, "the first", 0);
        is("0 shifts", x.rota(0, 1), -1);
        is("5 shifts", x.rota(5, 1), -1);
        is("0 MINUTES", x.rota(1, 0), -1);
        is("21 MINUTES", x.rota(1, 21), -1);
        x.set(2, 9);
        is("9 silent ones", x.rota(1, 10), 1);
        is("10 silent ones", x.rota(1, 11), -2);
        is("nobody", new MustNotStop().rota(1, 1), -2);
        x = bell("10;95;94", "", "");
        x.set(2, 0);
        is("the fewest", x.rota(4, 8), 1);
        row(x, "the least row", 1, 1, 1, 1);
        x.take(0);
        x.minutes(2);
        is("a silence longer than MOST stops no more", x.rota(2, 1), 1);
        row(x, "the least row", 0, 0);
        is("questions change nothing", x.count(2) * 100 + x.count(4), 102);
        x.take(1);
        x.minutes(1);
        is("STOPS that were are none", x.rota(2, 1), 1);
        row(x, "the least row", 1, 1);

        promise = 27;
        x = bell("25;23", "", "s-t");
        x.set(2, 0);
        is("3 and 5 and 3", x.cheapest(3, 1), 11);
        row(x, "1 and 0 and 1", 1, 0, 1);
        is("5 and 3", x.cheapest(2, 1), 8);
        row(x, "the least row", 0, 1);
        is("it can't be", x.cheapest(1, 2), -2);
        x.set(2, 1);
        is("3 and 3", x.cheapest(1, 2), 6);
        row(x, "the cheaper one", 1);
        is("0 shifts", x.cheapest(0, 1), -1);
        is("5 shifts", x.cheapest(5, 1), -1);
        is("0 MINUTES", x.cheapest(1, 0), -1);
        is("21 MINUTES", x.cheapest(1, 21), -1);
        x = bell("99;90;90", "", "5");
        is("for nothing", x.cheapest(4, 20), 0);
        row(x, "the least row", 1, 1, 1, 1);

        promise = 28;
        x = bell("25;23", "", "s-t");
        x.set(2, 0);
        is("one", x.longest(1), 1);
        row(x, "the least row", 0);
        is("by turns", x.longest(2), 1);
        row(x, "the least row", 0, 1);
        is("by turns", x.longest(3), 1);
        row(x, "the least row", 0, 1, 0);
        x.set(2, 3);
        is("1 and 3 silent ones", x.longest(1), 4);
        is("0 shifts", x.longest(0), -1);
        is("4 shifts", x.longest(4), -1);
        text(x, "5").rule();
        is("20 at most", x.longest(3), 20);
        row(x, "the least row", 0, 0, 0);
        text(x, "0").rule();
        x.set(2, 0);
        is("with none", x.longest(1), -2);
        row(x, "the ROW stays", 0, 0, 0);
        x = bell("10;90", "", "(m<7)*(s>1)-(m>30)");
        x.set(2, 9);
        is("7 rung, 9 silent", x.longest(2), 8);
        row(x, "who rings first", 1, 0);
    }

    static void change() {
        promise = 29;
        MustNotStop x = bell("35;17;94", "", "");
        is("none", x.change(0), 0);
        is("2 silent ones", x.change(2), 0);
        is("3: it stops ahead of them", x.change(3), 3);
        x.take(0);
        is("3", x.change(3), 11);
        is("30", x.change(30), 11);
        is("31", x.change(31), -1);
        is("-1", x.change(-1), -1);
        x.minutes(10);
        is("2 silent already", x.change(0), 0);
        is("..", x.change(1), 1);
        row(x, "no ROW of its own", 0, 0);
        x = bell("91", "", "5");
        x.take(0);
        x.mend(49);
        x.set(2, 9);
        is("9", x.change(9), 0);
        is("not by 999", x.change(10), -2);
        x.set(2, 8);
        is("999", x.change(9), 999);
        is("questions change nothing", x.count(4), 0);
    }

    static void doubts() {
        promise = 30;
        MustNotStop x = bell("", "30;91;92;90", "");
        is("no silence", x.doubts(0), 0);
        row(x, "no silence", 0, 0);
        is("2", x.doubts(2), 0);
        is("3, and who follows", x.doubts(3), 7);
        row(x, "3, and who follows", 3, 1);
        is("9", x.doubts(9), 15);
        row(x, "9", 4, 4);
        is("10", x.doubts(10), -1);
        is("-1", x.doubts(-1), -1);
        row(x, "the ROW stays", 4, 4);
        x.minutes(3);
        is("who doubts now", x.doubts(0), 7);
        row(x, "who doubts now", 3, 0);
        is("questions change nothing", x.count(9), 1);
        x = bell("", "92;91;50", "");
        is("again and again, from behind too", x.doubts(5), 7);
        row(x, "..", 3, 1);

        promise = 31;
        is("5", x.frees(), 5);
        x = bell("", "30;91;92;90", "");
        is("9", x.frees(), 9);
        is("nobody", new MustNotStop().frees(), 0);
        x.minutes(9);
        is("all do", x.frees(), 0);

        promise = 32;
        x = bell("", "30;91;92;90", "");
        is("0 and 3 have no NEED", x.persuade(), 2);
        row(x, "0 and 3", 9);
        x.minutes(3);
        is("3", x.persuade(), 1);
        row(x, "3", 8);
        x.minutes(6);
        is("nobody", x.persuade(), 0);
        row(x, "nobody", 0);
        x = bell("", "12;92;92;92", "");
        is("any two", x.persuade(), 2);
        row(x, "the least", 3);
        is("all", bell("", "10;20;30", "").persuade(), 3);
        is("none there", new MustNotStop().persuade(), 0);

        promise = 33;
        x = bell("", "30;91;92;93;94", "");
        is("NEED 0", x.firm(), 1);
        row(x, "NEED 0", 1);
        x = bell("", "30;91;93;94", "");
        is("4 is more than 3 others", x.firm(), 9);
        row(x, "two", 2);
        x = bell("", "31", "");
        is("no others", x.firm(), 1);
        is("nobody", new MustNotStop().firm(), 0);
    }

    static void laws() {
        promise = 34;
        MustNotStop x = bell("35;17;94", "", "");
        x.take(0);
        is("no bell by it", text(x, "0").law(), -8);
        row(x, "3 and 11", 3, 11);
        is("THE TEXT is empty", x.count(16), 0);
        is("the same", x.law(), 0);
        row(x, "11 and 11", 11, 11);
        is("s*9-t-10", text(x, "s*9-t-10").law(), 1);
        row(x, "9 rung, 3 silent", 12, 11);
        is("THE RULE stays", x.loud(), 15);
        x.set(2, 9);
        is("not in 999", text(x, "99").law(), 492);
        row(x, "500 rung", 510, 18);
        x.mend(49);
        is("not in 999", text(x, "99").law(), 982);
        row(x, "not in 999", 1000, 18);
        is("MINUTES below 0 tell the ROW, too", text(x, "0").law(), -8);
        row(x, "..", 10, 18);
        Object[] bad = {"+", 0, "s+", 2, "1234", 3, "(s", 2, "z", 0, "1<2<3", 3,
            "1+1+1+1+1+1+1+1+1+1+1+1+1+1+1+1+1+1+1+10+", 40};
        for (int i = 0; i < bad.length; i += 2) {
            is((String) bad[i], text(x, (String) bad[i]).law(), -10000 - (Integer) bad[i + 1]);
            is("THE TEXT is empty", x.count(16), 0);
        }
        row(x, "the ROW stays", 10, 18);
        is("THE RULE stays", x.loud(), 15);
        text(x, "7").rule();
        is("an empty one: none", x.law(), 18 - 1000);
        row(x, "an empty one: none", 18, 1000);

        x = bell("35;17;94", "", "");
        x.take(0);
        x.set(0, 7);
        x.set(1, 2);
        is("WEIGHT and FROST as they are", text(x, "s*10-t-w*3-f+1").law(), 0);
        row(x, "30-21-2+1, 30-21-2", 7, 7);
        is("..", text(x, "s*10-t-w*3-f+2").law(), 1);
        row(x, "30-21-2+2, 30-21-2", 8, 7);

        promise = 35;
        x = bell("21;10;30", "", "");
        x.set(0, 9);
        is("30-27-2", x.frozen(2), 4);
        is("30-27-3", x.frozen(3), 0);
        x.set(0, 5);
        is("9", x.frozen(9), 4);
        is("0", x.frozen(0), 5);
        is("20-15-4, 30-15-4", x.frozen(4), 5);
        row(x, "two", 2);
        is("30-15-5", x.frozen(5), 4);
        row(x, "one", 1);
        is("10", x.frozen(10), -1);
        is("-1", x.frozen(-1), -1);
        is("FROST stays", x.count(11), 0);
        x.sheet(2, 3, 15, -10);
        is("as TIRED as they are", x.frozen(0), 4);
        x.set(1, 9);
        is("FROST is that", x.frozen(0), 4);
        is("nobody", new MustNotStop().frozen(0), 0);

        promise = 36;
        x = bell("35;17;94", "", "");
        is("nobody", x.heaviest(1), -2);
        x.take(0);
        is("30-27", x.heaviest(1), 9);
        is("26-24", x.heaviest(3), 8);
        is("4-3", x.heaviest(14), 1);
        is("2-3", x.heaviest(15), -2);
        is("0", x.heaviest(0), -1);
        is("121", x.heaviest(121), -1);
        is("WEIGHT stays", x.count(10), 5);
        text(x, "w-7").rule();
        is("30", x.heaviest(120), 30);
        text(x, "8-(w-7)*(w-7)").rule();
        is("9", x.heaviest(1), 9);
        text(x, "").rule();
        x.set(1, 3);
        is("FROST as it is: 30-24-3", x.heaviest(1), 8);
    }

    static void whoRang() {
        promise = 37;
        MustNotStop x = bell("10;20;30", "", "");
        is("first", x.noted(0, 5, 1), 1);
        is("second", x.noted(0, 15, 0), 2);
        int[][] bad = {{6, 0, 1}, {-1, 0, 1}, {0, 10000, 1}, {0, -1000, 1}, {0, 0, 2}, {0, 0, -1}};
        for (int[] b : bad) {
            is("others", x.noted(b[0], b[1], b[2]), -1);
        }
        is("what was noted", x.count(13), 2);
        MustNotStop y = new MustNotStop();
        for (int i = 1; i <= 12; i++) {
            is("noted", y.noted(i % 6, i % 2 == 0 ? -999 : 9999, i % 2), i);
        }
        is("12", y.noted(0, 0, 0), -1);
        is("12", y.count(13), 12);

        promise = 39;
        is("1 in shift 0", x.rows(), 32);
        row(x, "the least", 1, 0, 1, 0, 1, 0);
        x.sheet(2, 3, 99, 0);
        is("not TIRED", x.rows(), 32);

        promise = 40;
        is("1 alone", x.rang(0), 2);
        row(x, "one", 1);
        is("not 1", x.rang(1), 5);
        row(x, "two", 2);
        is("any", x.rang(2), 7);
        row(x, "three", 3);
        is("6", x.rang(6), -1);
        is("-1", x.rang(-1), -1);
        row(x, "the ROW stays", 3);

        promise = 41;
        is("shift 2", x.ask(), 2);
        row(x, "three", 3);
        x.noted(1, 6, 1);
        x.noted(2, 6, 1);
        is("2 can't be in two", x.rows(), 0);
        row(x, "nothing without");
        is("nobody", x.rang(0), 0);
        row(x, "none", 0);
        is("no rows", x.ask(), -2);
        row(x, "the ROW stays", 0);

        promise = 38;
        is("they were", x.forget(), 4);
        is("none", x.forget(), 0);
        is("none", x.count(13), 0);
        is("all rows", x.rows(), 96);
        row(x, "the least", 0, 1, 0, 1, 0, 1);
        is("the first of equal ones", x.ask(), 0);
        row(x, "three", 3);

        promise = 39;
        x.set(1, 9);
        x.noted(5, 7, 1);
        is("by FROST as it is", x.rows(), 0);
        x.set(1, 0);
        x.noted(4, 4, 0);
        is("0 in 4, 2 in 5", x.rang(4), 1);
        is("not 0 in 3", x.rang(3), 6);
        is("of 24 those that don't end with 0", x.rows(), 16);
        row(x, "the least", 0, 1, 0, 1, 0, 2);
        x.noted(3, 6, 1);
        is("of 24 those that end with 2", x.rows(), 8);
        row(x, "the least", 0, 1, 0, 2, 0, 2);
        is("one alone", bell("90", "", "").rows(), 0);
        is("two", bell("90;80", "", "").rows(), 2);
        is("eight", bell("11;22;33;44;55;66;77;88", "", "").rows(), 8 * 7 * 7 * 7 * 7 * 7);
        x = bell("20;30", "", "");
        x.noted(3, 6, 0);
        x.sheet(2, 2, 50, 0);
        is("the first is not TIRED, too", x.rows(), 1);
        row(x, "one alone", 1, 0, 1, 0, 1, 0);
        x.noted(3, 5, 1);
        is("the first of those with one", x.ask(), 0);
        row(x, "one", 1);
        x.forget();
        is("at once", x.ask(), 0);
        row(x, "two", 2);
        x = bell("90;80", "", "m");
        x.minutes(5);
        x.noted(0, 5, 1);
        x.noted(1, 6, 0);
        is("NOW as it is", x.rows(), 2);
        x.minutes(1);
        is("NOW as it is", x.rows(), 0);
    }

    static void sickness() {
        promise = 42;
        MustNotStop x = bell("10;20;30", "", "");
        long[][] due = {{1, 1}, {99, 100}, {24, 25}, {91, 100}, {21, 25}, {3, 4}, {16, 25}, {51, 100}, {9, 25}, {19, 100}, {0, 1}};
        for (int p = 0; p <= 10; p++) {
            is("sick(" + p + ")", x.sick(p), 0);
            row(x, "sick(" + p + ")", due[p]);
        }
        is("11", x.sick(11), -1);
        is("-1", x.sick(-1), -1);
        row(x, "the ROW stays", 0, 1);
        x = bell("99;99;99;99;99;99;99;99", "", "");
        x.sick(9);
        row(x, "eight", 100000000 - 43046721, 100000000);
        x = bell("10", "", "");
        x.sick(0);
        row(x, "nobody can", 0, 1);
        x = new MustNotStop();
        x.sick(10);
        row(x, "nobody is there", 0, 1);

        promise = 43;
        x = bell("10;20;30", "", "");
        int[][] risks = {{0, 10}, {1, 9}, {19, 9}, {20, 8}, {75, 5}, {76, 4}, {84, 4}, {85, 3}, {99, 1}, {100, 0}, {101, -1}, {-1, -1}};
        for (int[] r : risks) {
            is("risk(" + r[0] + ")", x.risk(r[0]), r[1]);
        }
        row(x, "no ROW of its own");
        x = bell("20;30;40", "", "");
        is("999 in 1000 are not 100 in 100", x.risk(100), 0);
        is("999 in 1000", x.risk(99), 2);
        x = bell("10", "", "");
        is("nobody can", x.risk(1), -2);
        is("0 always", x.risk(0), 10);
    }

    static void councilAndUnion() {
        promise = 44;
        MustNotStop x = new MustNotStop();
        int[][] due = {{10, 1, 10, 0}, {10, 2, 1, 9}, {10, 3, 9, 1}, {10, 4, 2, 8}, {10, 5, 8, 2}, {0, 5, 0, 0}, {1, 1, 1, 0},
            {1, 2, 1, 0}, {1, 20, 1, 0}, {2, 2, 1, 1}, {20, 1, 20, 0}, {20, 2, 1, 19}, {2, 3, 1, 1}};
        for (int[] d : due) {
            is("settle(" + d[0] + ", " + d[1] + ")", x.settle(d[0], d[1]), d[2]);
            row(x, "settle(" + d[0] + ", " + d[1] + ")", d[3]);
        }
        int[][] bad = {{21, 1}, {-1, 1}, {5, 0}, {5, 21}};
        for (int[] b : bad) {
            is("settle(" + b[0] + ", " + b[1] + ")", x.settle(b[0], b[1]), -1);
        }
        row(x, "the ROW stays", 1);

        promise = 45;
        is("0", x.strike(0), 19);
        row(x, "0", 0, 0);
        is("1", x.strike(1), 18);
        row(x, "1", 0, 1);
        is("2", x.strike(2), 16);
        row(x, "2", 0, 2);
        is("99", x.strike(99), 1);
        row(x, "99", 9, 9);
        is("100", x.strike(100), -1);
        is("-1", x.strike(-1), -1);
        row(x, "the ROW stays", 9, 9);
        is("8", x.strike(8), 4);
        row(x, "8", 0, 8);
        is("10: 9 and 0", x.strike(10), 2);
        row(x, "10", 0, 9);
        is("18: half of it less 9 is 0", x.strike(18), 3);
    }

    static void years() {
        promise = 46;
        // By seed 5 three RINGERS are drawn 1, 2, 2, 2, 1, 1; the second by a number that is below 0 with sign.
        MustNotStop x = bell("10;50;30", "10", "s-4");
        x.set(2, 0);
        is("4", x.years(5, 4), 0);
        row(x, "4", 4, 11, 0);
        is("6", x.years(5, 6), 1);
        row(x, "6", 5, 16, 1);
        is("questions change nothing", x.count(2) + x.count(4) + x.count(9) + tired(x, 1), 0);
        is("0", x.years(5, 0), -1);
        is("301", x.years(5, 301), -1);
        row(x, "the ROW stays", 5, 16, 1);
        is("no RINGERS", new MustNotStop().years(5, 1), -1);
        x.take(1);
        is("who is there leaves", x.years(5, 1), 1);
        row(x, "who is there leaves", 0, 0, 1);
        x = bell("10;50;30;90", "", "5");
        x.take(0);
        x.take(1);
        x.take(2);
        is("the fourth is drawn: 3 are there", x.years(3, 1), 0);
        row(x, "the fourth is drawn", 1, 6, 0);
        x = bell("10;50;30", "10", "s-4");
        x.minutes(4);
        x.take(1);
        x.minutes(5);
        x.leave(1);
        x.set(2, 0);
        is("STOPS in these alone", x.years(5, 6), 1);
        row(x, "rung in these alone", 5, 26, 1);
        x = bell("90", "", "");
        // One more TIRED in two MINUTES: 75-t rings 75 times, and 99 is the end of it.
        is("one: by turns", x.years(-1, 300), 1);
        row(x, "one: by turns", 75, 98, 0);
    }

    static void kept() {
        promise = 48;
        for (int i = -1; i <= 3; i++) {
            is("a new one", new MustNotStop().again(i), false);
        }
        promise = 47;
        MustNotStop x = bell("35;17;94", "10", "");
        is("3", x.keep(3), false);
        is("-1", x.keep(-1), false);
        x.take(0);
        x.minutes(9);
        is("0", x.keep(0), true);
        x.minutes(9);
        x.take(2);
        is("2", x.keep(2), true);

        promise = 48;
        is("nothing kept", x.again(1), false);
        is("none such", x.again(3), false);
        is("none such", x.again(32), false);
        is("none such", x.keep(32), false);
        is("none such", x.again(Integer.MIN_VALUE), false);
        is("none such", x.again(-1), false);
        state(x, "as it was", 5, 50, 18, 8, 10, 1, 90, 1);
        x.mend(40);
        x.minutes(30);
        is("again", x.again(0), true);
        state(x, "0", 1, 50, 9, 8, 1, 0, 45, 1);
        is("TIRED", tired(x, 0), 18);
        is("none to undo", x.count(14), 0);
        is("again", x.again(2), true);
        state(x, "2", 5, 50, 18, 8, 10, 1, 90, 1);
        x.take(1);
        is("kept once more", x.keep(2), true);
        x.leave(1);
        is("again", x.again(2), true);
        is("THE ROPE", x.count(2), 7);
        x.set(0, 9);
        is("..", x.again(0), true);
        is("WEIGHT is none of it", x.count(10), 9);
        x.ringers();
        x.town();
        text(x, "0").ringers();
        is("nobody came since", x.again(0), true);
        text(x, "11").ringers();
        is("RINGERS came since", x.again(0), false);
        is("..", x.keep(0), true);
        is("..", x.again(0), true);
        is("RINGERS came since", x.again(2), false);
        text(x, "11").town();
        is("TOWNSPEOPLE came since", x.again(0), false);
    }

    static void countsAndRows() {
        promise = 49;
        MustNotStop x = bell("35;17;94", "10;20", "");
        x.take(0);
        x.take(2);
        x.minutes(20);
        x.leave(0);
        x.leave(2);
        x.minutes(3);
        x.set(0, 30);
        x.set(1, 7);
        x.set(2, 8);
        x.noted(1, 1, 1);
        x.sign(0);
        int[] due = {3, 2, 0, 48, 23, 20, 3, 1, 180, 3, 30, 7, 8, 1, 6, 2, 4};
        for (int i = 0; i < due.length; i++) {
            is("count(" + i + ")", x.count(i), due[i]);
        }
        x.take(2);
        is("bits", x.count(2), 4);
        is("-1", x.count(-1), -100);
        is("17", x.count(17), -100);
        is("far", x.count(Integer.MIN_VALUE), -100);

        promise = 50;
        row(x, "minutes", 1, 3);
        x.rows();
        row(x, "nothing without");
        x.forget();
        x.rows();
        row(x, "rows", 0, 1, 0, 1, 0, 1);
        x.loud();
        x.mend(3);
        x.frees();
        x.hush();
        row(x, "told last", 4);
        noRow(x, "far", Integer.MAX_VALUE);
        noRow(x, "far", Integer.MIN_VALUE);
    }
}
