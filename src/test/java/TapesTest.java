/** Promises 26 to 36 by hand: what is due was worked out from the document. */
public final class TapesTest {
    private static final Check CHECK = new Check();
    private static final long NO = Long.MIN_VALUE;
    private static final int HIGHEST = Integer.MAX_VALUE, LOWEST = Integer.MIN_VALUE;

    private static void due(String call, long got, long want) {
        CHECK.due(call, got, want);
    }

    private static void judge() {
        CHECK.promise(26);
        ClocksTold x = CHECK.of(0, 0, 15, 0, 0, 5, 0, 0, 0);
        due("judge(-1, 0)", x.judge(-1, 0), -1);
        due("judge(6, 0)", x.judge(6, 0), -1);
        due("judge(0, 0) of a tape that holds nothing", x.judge(0, 0), 100);
        int[] others = {0, 2, 3, 4};
        for (int sort : others) {
            x.tape(1, sort, 9);
            due("judge(1, 0) of sort " + sort, x.judge(1, 0), -12);
            due("judge(1, -1) of sort " + sort, x.judge(1, -1), -12);
        }
        x.tape(0, 1, 5);
        due("judge(0, 0) of zeros", x.judge(0, 0), 0);
        x.item(0, 2, 85);
        x.item(0, 3, 95);
        due("judge(0, 2) with 0 for 100", x.judge(0, 2), 2);
        x.item(0, 4, 100 + 65536);
        due("judge(0, 2)", x.judge(0, 2), -5);
        x.item(0, 4, 101);
        due("judge(0, 2)", x.judge(0, 2), 2);
        x.item(0, 3, 94);
        due("judge(0, 2)", x.judge(0, 2), 1);
        due("judge(0, -1)", x.judge(0, -1), 100);
        due("judge(0, 5)", x.judge(0, 5), 100);
        due("judge(0, highest)", x.judge(0, HIGHEST), 100);
        due("judge(0, lowest)", x.judge(0, LOWEST), 100);
        x.item(0, 4, 85);
        due("judge(0, 4): the row ends behind one", x.judge(0, 4), 101);
        x.tape(2, 1, 2);
        x.item(2, 0, 85);
        x.item(2, 1, 95);
        due("judge(2, 0): the row ends behind two", x.judge(2, 0), 102);
        x.tape(2, 1, 0);
        due("judge(2, 0) of an empty row", x.judge(2, 0), 100);
        ClocksTold none = new ClocksTold();
        none.tape(0, 1, 3);
        due("judge(0, 0) without clocks", none.judge(0, 0), -5);
    }

    private static ClocksTold full() {
        ClocksTold x = CHECK.enter(CHECK.with("pace 4;news 1 d=1"), 6, 3, 30, 2, 4, 20);
        x.row(0, 2, 7);
        x.balk(1, true);
        x.see(0, 3, 1);
        x.month(6);
        x.month(0);
        x.book(1, 80);
        return x;
    }

    private static void imageAndUndo() {
        CHECK.promise(27);
        due("image() without clocks", new ClocksTold().image(), 0);
        ClocksTold x = full();
        due("undo()", x.undo(), -3);
        due("image()", x.image(), 2);
        due("of(0, 2) is as it was", x.of(0, 2), 70);
        CHECK.promise(28);
        x.tell(0);
        x.balk(1, false);
        x.set(1, 0);
        x.row(0, 2, 1);
        x.clock(0, 0, 0);
        x.see(-1, 0, 0);
        x.see(1, 1, 1);
        x.see(1, 1, 1);
        x.month(-1);
        x.book(-1, 0);
        Check.bench(x, "pace 6");
        x.feed('p');
        x.tape(0, 0, 1);
        x.act(0, 0, 0);
        due("undo()", x.undo(), 2);
        asItWas(x);
        due("count(1) is no part of THE IMAGE", x.count(1), 2);
        due("count(5) is no part of THE IMAGE", x.count(5), 1);
        due("count(6) is no part of THE IMAGE", x.count(6), 2);
        due("read(0, 0) is no part of THE IMAGE", x.read(0, 0), 0);
        x.tell(1);
        due("undo() once more", x.undo(), 2);
        asItWas(x);
        due("bench()", Check.bench(x, "ace 9"), 2);
        due("told(1)", x.told(1), 9);
        due("image() of a later state", x.image(), 2);
        x.pass(1);
        due("undo()", x.undo(), 2);
        due("told(1)", x.told(1), 9);
    }

    private static void asItWas(ClocksTold x) {
        due("count(0)", x.count(0), 2);
        due("told(0)", x.told(0), 100);
        due("told(1)", x.told(1), 4);
        due("of(0, 2)", x.of(0, 2), 70);
        due("of(0, 0)", x.of(0, 0), 6);
        due("of(1, 1)", x.of(1, 1), 4);
        due("of(1, 2)", x.of(1, 2), 80);
        due("of(1, 3)", x.of(1, 3), 1);
        due("of(1, 4)", x.of(1, 4), 22);
        due("row(0, 2, 7)", x.row(0, 2, 7), 7);
        due("count(2)", x.count(2), 1);
        due("since(1, 0)", x.since(1, 0), 100);
        due("since(0, 0): two days and a night are 3 more", x.since(0, 0), 1);
        due("since(0, 1)", x.since(0, 1), 2);
        due("count(3)", x.count(3), 2);
        due("ends(0)", x.ends(0), 0);
        due("ends(1): 71 to 101 and 80 to 101, and 4 and 3 more for days with a 1", x.ends(1), 31 + 4 + 22 + 3);
        due("count(4)", x.count(4), 1);
        due("looked()", x.looked(), -5);
    }

    private static void undoToFewer() {
        ClocksTold x = CHECK.of(6, 1, 10);
        x.image();
        x.clock(6, 9, 20);
        x.row(1, 0, 5);
        x.balk(1, true);
        due("undo()", x.undo(), 1);
        due("of(1, 0) of one that is no more", x.of(1, 0), -1);
        due("clock(6, 2, 30)", x.clock(6, 2, 30), 1);
        due("of(1, 1)", x.of(1, 1), 2);
        due("of(1, 3)", x.of(1, 3), 0);
        due("of(1, 5)", x.of(1, 5), 5);
    }

    private static ClocksTold ofAllKinds() {
        return CHECK.of(0, 3, 0, 1, 5, 0, 2, 4, 0, 3, 2, 0, 4, 7, 0, 5, 1, 0);
    }

    private static void traced(ClocksTold x, int clock, int act, int want, int... bodies) {
        String call = "act(" + clock + ", " + act + ", 4)";
        CHECK.promise(29);
        due(call, x.act(clock, act, 4), want);
        CHECK.promise(30);
        due("count(6) behind " + call, x.count(6), bodies.length);
        for (int i = 0; i < bodies.length; i++) {
            due("trace(" + i + ") behind " + call, x.trace(i), bodies[i]);
        }
        due("trace() behind its end", x.trace(bodies.length), -1);
        due("trace(-1)", x.trace(-1), -1);
    }

    private static void acts() {
        ClocksTold x = ofAllKinds();
        due("trace(0) ahead of any act", x.trace(0), -1);
        traced(x, 0, 0, 4, 10);
        traced(x, 0, 1, 1, 11, 10);
        traced(x, 0, 2, 2, 12, 11, 10);
        traced(x, 1, 0, 5, 10);
        traced(x, 1, 1, 6, 20, 11, 10);
        traced(x, 1, 2, 12, 12, 20, 11, 10);
        traced(x, 2, 0, 14, 30, 10);
        traced(x, 2, 1, 10, 11, 30, 10);
        traced(x, 2, 2, 20, 12, 11, 30, 10);
        traced(x, 3, 0, 7, 10);
        traced(x, 3, 1, 5, 11, 10);
        traced(x, 3, 2, 12, 40, 12, 11, 10, 11, 10);
        traced(x, 4, 0, -8, 50, 10);
        traced(x, 4, 1, -10, 51, 20, 11, 50, 10);
        traced(x, 4, 2, -20, 12, 51, 20, 11, 50, 10);
        traced(x, 5, 0, 17, 30, 10);
        traced(x, 5, 1, 16, 11, 30, 10);
        traced(x, 5, 2, 2, 60, 12, 11, 30, 10);
        ClocksTold y = CHECK.of(6, 6, 0, 0, 0, 0);
        traced(y, 0, 0, 2, 71, 10);
        traced(y, 0, 1, -2, 70, 11, 71, 10, 10);
        traced(y, 0, 2, -1, 40, 12, 70, 11, 71, 10, 10, 70, 11, 71, 10, 10);
    }

    private static void actsAtEdges() {
        CHECK.promise(29);
        ClocksTold x = CHECK.of(2, 0, 0, 0, 1, 0, 1, 0, 0);
        due("act(0, 0, highest) wraps", x.act(0, 0, HIGHEST), HIGHEST - 2);
        due("act(1, 0, highest) wraps", x.act(1, 0, HIGHEST), LOWEST);
        due("act(1, 2, 1 << 30) wraps", x.act(1, 2, 1 << 30), LOWEST);
        int[][] none = {{3, 0}, {2, 3}, {2, -1}, {-1, 0}, {0, 3}, {0, -1}, {6, 1}};
        for (int[] call : none) {
            x.act(1, 2, 5);
            due("count(6)", x.count(6), 3);
            due("act(" + call[0] + ", " + call[1] + ", 5)", x.act(call[0], call[1], 5), 0);
            due("count(6)", x.count(6), 0);
            due("trace(0)", x.trace(0), -1);
        }
    }

    private static void taken() {
        CHECK.promise(31);
        ClocksTold x = ofAllKinds();
        int[] above = {-1, 0, 0, 0, 1, 2};
        for (int kind = 0; kind < 6; kind++) {
            for (int k = 0; k < 7; k++) {
                boolean isOne = k == kind || k == 0 || k == above[kind];
                due("taken(" + kind + ", " + k + ")", x.taken(kind, k), isOne ? kind : -12);
            }
        }
        ClocksTold y = CHECK.of(6, 0, 0);
        int[] due = {6, -12, -12, 6, -12, -12, 6};
        for (int k = 0; k < 7; k++) {
            due("taken(0, " + k + ") of a TOLD", y.taken(0, k), due[k]);
        }
        due("taken(0, 7)", y.taken(0, 7), -2);
        due("taken(0, -1)", y.taken(0, -1), -2);
        due("taken(1, 7)", y.taken(1, 7), -2);
        due("taken(1, 0)", y.taken(1, 0), -11);
        due("taken(-1, 0)", y.taken(-1, 0), -11);
    }

    private static void count() {
        CHECK.promise(32);
        ClocksTold x = full();
        x.see(0, 0, 0);
        x.month(0);
        x.month(0);
        x.month(1);
        x.book(0, 0);
        x.book(0, 0);
        x.feed('p');
        x.act(0, 2, 4);
        int[] due = {2, 1, 2, 5, 3, 1, 12};
        for (int i = 0; i < due.length; i++) {
            due("count(" + i + ")", x.count(i), due[i]);
        }
        due("count(7)", x.count(7), -2);
        due("count(-1)", x.count(-1), -2);
    }

    private static void tape() {
        CHECK.promise(33);
        ClocksTold x = new ClocksTold();
        due("tape(-1, 9, 99)", x.tape(-1, 9, 99), -1);
        due("tape(6, 0, 1)", x.tape(6, 0, 1), -1);
        due("tape(0, 5, 1)", x.tape(0, 5, 1), -2);
        due("tape(0, -2, 1)", x.tape(0, -2, 1), -2);
        due("tape(0, 5, -1)", x.tape(0, 5, -1), -2);
        due("tape(0, 0, 61)", x.tape(0, 0, 61), -2);
        due("tape(0, 0, highest)", x.tape(0, 0, HIGHEST), -2);
        due("tape(0, 0, -1)", x.tape(0, 0, -1), -14);
        due("tape(0, 0, lowest)", x.tape(0, 0, LOWEST), -14);
        due("read(0, 0)", x.read(0, 0), NO);
        for (int sort = 0; sort <= 4; sort++) {
            due("tape(" + sort + ", " + sort + ", 60)", x.tape(sort, sort, 60), 1);
            due("read(" + sort + ", 59)", x.read(sort, 59), 0);
            due("read(" + sort + ", 60)", x.read(sort, 60), NO);
            x.item(sort, 0, 1);
        }
        due("tape(1, 1, 3) anew", x.tape(1, 1, 3), 1);
        due("read(1, 0)", x.read(1, 0), 0);
        due("read(1, 3)", x.read(1, 3), NO);
        due("tape(1, -1, -9)", x.tape(1, -1, -9), 1);
        due("read(1, 0)", x.read(1, 0), NO);
        due("item(1, 0, 0)", x.item(1, 0, 0), -11);
        due("tape(1, -1, 99)", x.tape(1, -1, 99), 1);
        due("tape(1, 2, 0)", x.tape(1, 2, 0), 1);
        due("item(1, 0, 0) of a row of none", x.item(1, 0, 0), -13);
        due("tape(2, 9, 1) changes nothing", x.tape(2, 9, 1), -2);
        due("read(2, 0)", x.read(2, 0), 1);
    }

    private static void item() {
        CHECK.promise(34);
        long[] values = {1, -1, 127, 128, 255, 256, 32767, 32768, 70000, 1L << 31, (1L << 32) + 5, Long.MAX_VALUE, NO, 0};
        ClocksTold x = new ClocksTold();
        for (int sort = 0; sort <= 4; sort++) {
            x.tape(sort, sort, 2);
            for (long v : values) {
                long[] due = {(byte) v, (short) v, (int) v, v, v == 0 ? 0 : 1};
                due("item(" + sort + ", 1, " + v + ")", x.item(sort, 1, v), 1);
                due("read(" + sort + ", 1) of " + v, x.read(sort, 1), due[sort]);
                due("read(" + sort + ", 0)", x.read(sort, 0), 0);
            }
        }
        due("item(-1, 0, 0)", x.item(-1, 0, 0), -1);
        due("item(6, 0, 0)", x.item(6, 0, 0), -1);
        due("item(5, -1, 0)", x.item(5, -1, 0), -11);
        due("item(0, -1, 0)", x.item(0, -1, 0), -13);
        due("item(0, 2, 0)", x.item(0, 2, 0), -13);
        due("item(0, highest, 0)", x.item(0, HIGHEST, 0), -13);
    }

    private static void read() {
        CHECK.promise(35);
        ClocksTold x = new ClocksTold();
        x.tape(0, 3, 2);
        x.item(0, 1, -7);
        due("read(0, 1)", x.read(0, 1), -7);
        due("read(0, 0)", x.read(0, 0), 0);
        due("read(0, 2)", x.read(0, 2), NO);
        due("read(0, -1)", x.read(0, -1), NO);
        due("read(0, lowest)", x.read(0, LOWEST), NO);
        due("read(1, 0)", x.read(1, 0), NO);
        due("read(-1, 0)", x.read(-1, 0), NO);
        due("read(6, 0)", x.read(6, 0), NO);
    }

    private static void rowIs(ClocksTold x, int tape, int... items) {
        for (int i = 0; i < items.length; i++) {
            due("read(" + tape + ", " + i + ")", x.read(tape, i), items[i]);
        }
    }

    private static void shift() {
        CHECK.promise(36);
        ClocksTold x = new ClocksTold();
        x.tape(0, 2, 5);
        x.tape(1, 2, 3);
        x.tape(2, 3, 3);
        for (int i = 0; i < 5; i++) {
            x.item(0, i, i + 1);
        }
        due("shift(0, 0, 0, 1, 4)", x.shift(0, 0, 0, 1, 4), 4);
        rowIs(x, 0, 1, 1, 2, 3, 4);
        due("shift(0, 2, 0, 1, 3)", x.shift(0, 2, 0, 1, 3), 3);
        rowIs(x, 0, 1, 2, 3, 4, 4);
        due("shift(0, 2, 1, 0, 3)", x.shift(0, 2, 1, 0, 3), 3);
        rowIs(x, 1, 3, 4, 4);
        due("shift(0, 5, 1, 3, 0)", x.shift(0, 5, 1, 3, 0), 0);
        int[][] places = {{0, 0, -1}, {-1, 0, 1}, {0, -1, 1}, {3, 0, 3}, {0, 1, 3}, {6, 0, 0}, {0, 4, 0},
            {HIGHEST, 0, 1}, {0, HIGHEST, 1}, {1, 0, HIGHEST}, {HIGHEST, 0, HIGHEST}, {LOWEST, 0, 0}, {0, 0, LOWEST}};
        for (int[] p : places) {
            due("shift(0, " + p[0] + ", 1, " + p[1] + ", " + p[2] + ")", x.shift(0, p[0], 1, p[1], p[2]), -13);
        }
        rowIs(x, 1, 3, 4, 4);
        due("shift(0, 0, 2, 0, 1)", x.shift(0, 0, 2, 0, 1), -12);
        due("shift(0, -1, 2, 0, 1)", x.shift(0, -1, 2, 0, 1), -12);
        due("shift(0, -1, 3, 0, 1)", x.shift(0, -1, 3, 0, 1), -11);
        due("shift(3, 0, 0, 0, 1)", x.shift(3, 0, 0, 0, 1), -11);
        due("shift(3, 0, 6, 0, 1)", x.shift(3, 0, 6, 0, 1), -1);
        due("shift(-1, 0, 0, 0, 1)", x.shift(-1, 0, 0, 0, 1), -1);
    }

    public static void main(String[] args) {
        judge();
        imageAndUndo();
        undoToFewer();
        acts();
        actsAtEdges();
        taken();
        count();
        tape();
        item();
        read();
        shift();
        CHECK.end("TapesTest");
    }
}
