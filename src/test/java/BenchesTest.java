/** Promises 1 to 10 by hand: what is due was worked out from the document. */
public final class BenchesTest {
    private static final Check CHECK = new Check();
    private static final long NO = Long.MIN_VALUE;

    private static void due(String call, long got, long want) {
        CHECK.due(call, got, want);
    }

    private static void newObject() {
        CHECK.promise(1);
        ClocksTold x = new ClocksTold();
        for (int i = 0; i <= 6; i++) {
            due("count(" + i + ")", x.count(i), 0);
        }
        due("told(0)", x.told(0), 100);
        due("told(1)", x.told(1), 10);
        due("undo()", x.undo(), -3);
        for (int i = 0; i < 6; i++) {
            due("read(" + i + ", 0)", x.read(i, 0), NO);
        }
        due("NONE", ClocksTold.NONE, -1);
        due("BAD", ClocksTold.BAD, -2);
        due("STATE", ClocksTold.STATE, -3);
        due("FULL", ClocksTold.FULL, -4);
        due("NO", ClocksTold.NO, NO);
    }

    private static void clock() {
        CHECK.promise(2);
        ClocksTold x = new ClocksTold();
        due("clock(-1, 0, 0)", x.clock(-1, 0, 0), -1);
        due("clock(7, 10, -1)", x.clock(7, 10, -1), -1);
        due("clock(0, -1, 0)", x.clock(0, -1, 0), -2);
        due("clock(0, 10, 0)", x.clock(0, 10, 0), -2);
        due("clock(0, 0, -1)", x.clock(0, 0, -1), -2);
        due("clock(0, 0, 101)", x.clock(0, 0, 101), -2);
        due("count(0)", x.count(0), 0);
        due("clock(6, 9, 100)", x.clock(6, 9, 100), 0);
        due("clock(0, 0, 0)", x.clock(0, 0, 0), 1);
        due("pass(1)", x.pass(1), 101);
        due("clock(5, 3, 101)", x.clock(5, 3, 101), 2);
        due("of(0, 2)", x.of(0, 2), 0);
        due("of(1, 2)", x.of(1, 2), 101);
        due("of(2, 2)", x.of(2, 2), 0);
        due("of(2, 0)", x.of(2, 0), 5);
        due("of(2, 1)", x.of(2, 1), 3);
        due("of(2, 3)", x.of(2, 3), 0);
        for (int i = 3; i < 6; i++) {
            due("clock(1, 1, 1)", x.clock(1, 1, 1), i);
        }
        due("clock(0, 0, 0) of a seventh", x.clock(0, 0, 0), -4);
        due("clock(0, 10, 0) of a seventh", x.clock(0, 10, 0), -2);
        due("clock(7, 0, 0) of a seventh", x.clock(7, 0, 0), -1);
    }

    private static void holdsAre(ClocksTold x, int... holds) {
        for (int i = 0; i < holds.length; i++) {
            due("of(" + i + ", 5)", x.of(i, 5), holds[i]);
        }
    }

    private static void ofOne() {
        CHECK.promise(3);
        ClocksTold x = CHECK.of(0, 3, 0, 1, 3, 10, 2, 3, 20, 3, 3, 30, 4, 3, 40, 5, 3, 50);
        for (int kind = 0; kind < 6; kind++) {
            due("of(" + kind + ", 0)", x.of(kind, 0), kind);
            due("of(" + kind + ", 1)", x.of(kind, 1), 3);
            due("of(" + kind + ", 2)", x.of(kind, 2), 100 - 10 * kind);
            due("of(" + kind + ", 3)", x.of(kind, 3), 0);
            due("of(" + kind + ", 4)", x.of(kind, 4), 10 * kind);
        }
        holdsAre(x, 10, 20, 10, 5, 23, 10);
        Check.bench(x, "pace 7");
        holdsAre(x, 7, 14, 7, 3, 17, 7);
        Check.bench(x, "pace 1");
        holdsAre(x, 1, 2, 1, 1, 5, 1);
        Check.bench(x, "pace 99");
        holdsAre(x, 99, 198, 99, 49, 201, 99);
        due("of(-1, 0)", x.of(-1, 0), -1);
        due("of(6, 0)", x.of(6, 0), -1);
        due("of(0, -1)", x.of(0, -1), -1);
        due("of(0, 8)", x.of(0, 8), -1);
    }

    private static void holdsOfTold() {
        ClocksTold x = CHECK.of(6, 0, 10);
        x.row(0, 0, 9);
        x.row(0, 2, 4);
        int[] due = {14, 5, 9, 5, 14};
        for (int want : due) {
            due("of(0, 5) of a TOLD", x.of(0, 5), want);
            x.pass(1);
        }
        Check.bench(x, "pace 1");
        due("of(0, 5) of a TOLD with PACE 1", x.of(0, 5), 1);
        x.pass(1);
        due("of(0, 5) at 106", x.of(0, 5), 1 + 4);
    }

    private static void left() {
        ClocksTold x = CHECK.enter(CHECK.with("news 5 d=3;hush 1 d=4"), 0, 0, 10, 0, 0, 0, 0, 0, 100);
        due("of(0, 4)", x.of(0, 4), 10 + 5 - 1);
        due("of(1, 4)", x.of(1, 4), 0);
        due("of(2, 4)", x.of(2, 4), 100 + 50 - 10);
        x.set(0, 94);
        due("of(0, 4) from 94 on", x.of(0, 4), 5);
        CHECK.toDay(x, 305);
        due("of(0, 4) from 94 to 305", x.of(0, 4), 211 + 21 * 5 - 22);
    }

    private static void minded() {
        ClocksTold x = CHECK.enter(CHECK.with("news 5 d=3"), 2, 2, 20, 2, 3, 20, 5, 2, 20, 5, 1, 7, 0, 0, 20, 5, 1, 17);
        due("of(0, 6) of a CUCKOO", x.of(0, 6), 83);
        due("of(1, 6) of one that does not mind 6", x.of(1, 6), -5);
        due("of(2, 6) of a BET with a multiple of 4 ahead", x.of(2, 6), 83);
        due("of(3, 6) of a BET with a multiple of 3", x.of(3, 6), -5);
        due("of(4, 6) of a CLOCK", x.of(4, 6), -5);
        due("of(5, 6) of a BET", x.of(5, 6), 83);
        due("set(0, 84)", x.set(0, 84), 80);
        due("of(0, 6) behind 83", x.of(0, 6), 93);
        due("set(0, 94)", x.set(0, 94), 84);
        due("of(0, 6) behind 93", x.of(0, 6), -5);
        x.balk(2, true);
        due("of(2, 6) of one that BALKS", x.of(2, 6), -5);
    }

    private static void whole() {
        ClocksTold x = CHECK.of(0, 0, 30, 0, 0, 0, 0, 0, 10, 0, 0, 11, 0, 0, 30);
        x.balk(4, true);
        int[] due = {4, 0, 1, 2, -5};
        for (int i = 0; i < due.length; i++) {
            due("of(" + i + ", 7)", x.of(i, 7), due[i]);
        }
        x.balk(1, true);
        due("of(1, 7) of one UP that BALKS", x.of(1, 7), 0);
        ClocksTold y = CHECK.enter(CHECK.with("pace 2"), 0, 0, 61, 0, 0, 62);
        due("of(0, 7) at 60", y.of(0, 7), 60);
        due("of(1, 7) beyond 60", y.of(1, 7), -5);
    }

    private static void newsOf(String text, int day, int want) {
        ClocksTold x = CHECK.enter(CHECK.with(text), 0, 0, 0);
        due("news(0, " + day + ") with '" + text + "'", x.news(0, day), want);
    }

    private static void newsByClock() {
        CHECK.promise(4);
        ClocksTold x = CHECK.enter(CHECK.with("news 10 c=1&k=2;hush 3 v<4"), 2, 3, 0, 2, 9, 0, 1, 4, 0);
        due("news(0, 7)", x.news(0, 7), 0);
        due("news(1, 7)", x.news(1, 7), 11);
        due("news(2, 7)", x.news(2, 7), 1);
        due("news(0, -1)", x.news(0, -1), -2);
        due("news(0, 10000)", x.news(0, 10000), -2);
        due("news(0, 9999)", x.news(0, 9999), 0);
        due("news(3, -1)", x.news(3, -1), -1);
        due("news(-1, 0)", x.news(-1, 0), -1);
        due("news(0, 5) without a bench", CHECK.of(0, 0, 0).news(0, 5), 1);
    }

    private static void newsByDay() {
        String by = "news 10 d=7;news 20 t=3;news 40 h=37";
        int[][] days = {{37, 71}, {1237, 71}, {9937, 71}, {1207, 11}, {1230, 21}, {9999, 1}, {0, 1}};
        for (int[] day : days) {
            newsOf(by, day[0], day[1]);
        }
        newsOf("news 1 d<3", 2, 2);
        newsOf("news 1 d<3", 3, 1);
        newsOf("news 1 d>3", 3, 1);
        newsOf("news 1 d>3", 4, 2);
        newsOf("news 99 h<99;hush 98 h=98", 98, 2);
        newsOf("hush 99 d=0;news 98 d=0", 0, 0);
        newsOf("hush 99 d=0;news 99 d=0", 0, 1);
        newsOf("hush 99 d=0;pace 3;news 99 d=0;news 07 d=0", 0, 8);
    }

    private static void newsByParts() {
        newsOf("news 1 d=1|d=2&t=5", 1, 2);
        newsOf("news 1 d=1|d=2&t=5", 2, 1);
        newsOf("news 1 d=1|d=2&t=5", 52, 2);
        newsOf("news 1 d=2&t=5|d=1", 1, 2);
        newsOf("news 1 (d=1|d=2)&t=5", 1, 1);
        newsOf("news 1 (d=1|d=2)&t=5", 51, 2);
        newsOf("news 1 !d=1&t=5", 52, 2);
        newsOf("news 1 !d=1&t=5", 2, 1);
        newsOf("news 1 !(d=1&t=5)", 51, 1);
        newsOf("news 1 !(d=1&t=5)", 1, 2);
        newsOf("news 1 !!d=1", 1, 2);
        newsOf("news 1 d=1|d=2|d=3|d=4&t=0", 14, 1);
        newsOf("news 1 d=1|d=2|d=3|d=4&t=0", 13, 2);
    }

    private static void set() {
        CHECK.promise(5);
        ClocksTold x = CHECK.of(0, 0, 10);
        due("set(0, 0)", x.set(0, 0), 90);
        due("set(0, 100)", x.set(0, 100), 0);
        due("told(2)", x.told(2), 1);
        due("set(0, 101)", x.set(0, 101), -2);
        due("set(0, -1)", x.set(0, -1), -2);
        due("set(1, -1)", x.set(1, -1), -1);
        due("set(-1, 0)", x.set(-1, 0), -1);
        due("of(0, 2)", x.of(0, 2), 100);
    }

    private static void balk() {
        CHECK.promise(6);
        ClocksTold x = CHECK.of(0, 0, 10);
        due("balk(0, true)", x.balk(0, true), 0);
        due("balk(0, true)", x.balk(0, true), 1);
        due("of(0, 3)", x.of(0, 3), 1);
        due("balk(0, false)", x.balk(0, false), 1);
        due("of(0, 3)", x.of(0, 3), 0);
        due("balk(1, true)", x.balk(1, true), -1);
        due("balk(-1, false)", x.balk(-1, false), -1);
    }

    private static void row() {
        CHECK.promise(7);
        ClocksTold x = CHECK.of(6, 0, 10, 3, 0, 10, 6, 0, 0);
        due("row(0, 0, 9)", x.row(0, 0, 9), 0);
        due("row(0, 0, 0)", x.row(0, 0, 0), 9);
        due("row(0, 3, 5)", x.row(0, 3, 5), 0);
        due("row(2, 3, 1)", x.row(2, 3, 1), 0);
        due("row(0, 3, 6)", x.row(0, 3, 6), 5);
        due("row(0, 4, 0)", x.row(0, 4, 0), -1);
        due("row(0, -1, 10)", x.row(0, -1, 10), -1);
        due("row(3, 0, 0)", x.row(3, 0, 0), -1);
        due("row(0, 0, 10)", x.row(0, 0, 10), -2);
        due("row(1, 0, -1)", x.row(1, 0, -1), -2);
        due("row(1, 0, 1)", x.row(1, 0, 1), -3);
        rowsOfSix();
    }

    private static void rowsOfSix() {
        ClocksTold x = CHECK.of(6, 0, 1, 6, 0, 1, 6, 0, 1, 6, 0, 1, 6, 0, 1, 6, 0, 1);
        for (int i = 0; i < 24; i++) {
            due("row(" + i / 4 + ", " + i % 4 + ")", x.row(i / 4, i % 4, i * 7 % 10), 0);
        }
        for (int i = 0; i < 24; i++) {
            due("row(" + i / 4 + ", " + i % 4 + ")", x.row(i / 4, i % 4, i * 7 % 10), i * 7 % 10);
        }
        for (int part = 0; part < 4; part++) {
            for (int i = 0; i < 6; i++) {
                due("of(" + i + ", 5) at part " + part, x.of(i, 5), 5 + (i * 4 + part) * 7 % 10);
            }
            x.pass(1);
        }
    }

    private static void feed() {
        CHECK.promise(8);
        ClocksTold x = new ClocksTold();
        due("feed(-1)", x.feed(-1), -2);
        due("feed(128)", x.feed(128), -2);
        for (int i = 1; i <= 100; i++) {
            due("feed()", x.feed(i % 2 == 0 ? 0 : 127), i);
        }
        due("feed(0)", x.feed(0), -4);
        due("feed(128)", x.feed(128), -2);
        due("count(5)", x.count(5), 100);
    }

    /** A text with a ^ ahead of the byte that is the FAULT. */
    private static void fault(String marked) {
        int place = marked.indexOf('^');
        String text = marked.substring(0, place) + marked.substring(place + 1);
        ClocksTold x = new ClocksTold();
        due("bench() of '" + text + "'", Check.bench(x, text), -10 - place);
        due("count(5) behind '" + text + "'", x.count(5), 0);
        due("count(1) behind '" + text + "'", x.count(1), 0);
    }

    private static void faults() {
        CHECK.promise(9);
        String[] texts = {
            "^", "^x", "^ pace 1", "^;pace 1", "n^", "new^t 1 c=1", "news^", "news^1 c=1", "news ^ 1 c=1", "news ^c=1",
            "news 1^", "news 1 ^", "news 1^;pace 2", "news 12^3 c=1", "news 1 ^q=1", "news 1 ^C=1", "news 1 ^=1",
            "news 1 c^", "news 1 c^!1", "news 1 c=^", "news 1 c=^x", "news 1 c=^=1", "news 1 c=12^3", "news 1 c=1^ ",
            "news 1 c=1&^", "news 1 c=1|^", "news 1 c=1&^&d=1", "news 1 c=1|^;pace 1", "news 1 c=1^)", "news 1 c=1^!d=1",
            "news 1 c=1^(", "news 1 (c=1^", "news 1 (c=1^;pace 2", "news 1 (^)", "news 1 !^", "news 1 !^)", "h^ash 1 c=1",
            "hush 1 ((((^(c=1)))))", "hush 1 !!!!^!c=1", "hush 1 !(!(^(c=1))))", "hush 1 (!(!^(c=1)))",
            "hush 1 ((((c=1^", "hush 1 ((((c=1))))&!!!!c=1&((((^(c=1", "hush 1 !(!(^", "p^", "pace^", "pace ^", "pace 1^ c=1",
            "pace 12^3", "pace ^-1", "pac^t 12", "pace 1;^", "pace 1;^;pace 1", "pace 1;n^", "^PACE 1", "pace 1;^Pace 1",
        };
        for (String text : texts) {
            fault(text);
        }
        String nine = "pace 1;pace 1;pace 1;pace 1;pace 1;pace 1;pace 1;pace 1;pace 1;";
        fault(nine + "pace 1^;pace 1");
        fault(nine + "pace 1^;");
        fault(nine + "^");
        fault(nine + "pace 1^x");
    }

    private static void benches() {
        CHECK.promise(9);
        String[] texts = {
            "pace 1;pace 1;pace 1;pace 1;pace 1;pace 1;pace 1;pace 1;pace 1;pace 11",
            "news 1 ((((c=1))))&!!!!c=1&(!(!k<2|v>3))",
            "pace 00", "hush 00 h=99|c<01", "pace 5", "pace 6",
        };
        ClocksTold x = new ClocksTold();
        int[] paces = {11, 10, 1, 10, 5, 6};
        for (int i = 0; i < 6; i++) {
            due("bench() of '" + texts[i] + "'", Check.bench(x, texts[i]), i);
            due("told(1)", x.told(1), paces[i]);
            if (i < 5) {
                due("bench() of a fault", Check.bench(x, "pace 7;"), -17);
            }
            due("told(1) still", x.told(1), paces[i]);
        }
        due("count(1)", x.count(1), 6);
        due("bench() of a seventh", Check.bench(x, "pace 7"), -4);
        due("count(5)", x.count(5), 6);
        due("told(1)", x.told(1), 6);
    }

    private static void longest() {
        StringBuilder text = new StringBuilder("news 10 c=0&");
        while (text.length() < 96) {
            text.append("k=0&");
        }
        ClocksTold x = CHECK.enter(CHECK.with(text + "d=33"), 0, 0, 0);
        due("news(0, 3)", x.news(0, 3), 1);
        ClocksTold y = CHECK.enter(CHECK.with(text + "h=33"), 0, 0, 0);
        due("news(0, 33)", y.news(0, 33), 11);
        due("news(0, 34)", y.news(0, 34), 1);
    }

    private static void told() {
        CHECK.promise(10);
        ClocksTold x = CHECK.of(0, 0, 10, 0, 0, 0, 0, 0, 5);
        due("told(0)", x.told(0), 100);
        due("told(1)", x.told(1), 10);
        due("told(2)", x.told(2), 1);
        due("told(3)", x.told(3), 15);
        due("told(4)", x.told(4), -1);
        due("told(-1)", x.told(-1), -1);
        Check.bench(x, "pace 3;news 4 c=2;pace 2");
        due("told(1)", x.told(1), 2);
        due("told(3)", x.told(3), 35);
        Check.bench(x, "pace 0");
        due("told(1)", x.told(1), 1);
        Check.bench(x, "news 1 c=1");
        due("told(1)", x.told(1), 10);
        x.set(0, 100);
        due("told(2)", x.told(2), 2);
        due("told(3)", x.told(3), 5);
    }

    public static void main(String[] args) {
        newObject();
        clock();
        ofOne();
        holdsOfTold();
        left();
        minded();
        whole();
        newsByClock();
        newsByDay();
        newsByParts();
        set();
        balk();
        row();
        feed();
        faults();
        benches();
        longest();
        told();
        CHECK.end("BenchesTest");
    }
}
