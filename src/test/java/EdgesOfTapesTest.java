/** One test for each sentence that names a boundary: promises 26 to 36, with the terms that they use. */
public final class EdgesOfTapesTest {
    private static final int NONE = -1, BAD = -2, STATE = -3, FULL = -4, WITHOUT = -5;
    private static final int NOTHING = -11, CAST = -12, PLACE = -13, SIZE = -14;
    private static final long NO = Long.MIN_VALUE;
    private static final int MAX = Integer.MAX_VALUE, MIN = Integer.MIN_VALUE;
    private static final String HIGHEST = "2147483647", LOWEST = "-2147483648";

    // ---- promise 26: judge

    /** Clocks that heard up to 90, 80, 70 .., and a row of shorts that says so from a place on. */
    private static Talk judged(int clocks, int length, int from) {
        Talk x = new Talk();
        x.does("tape(0, 1, " + length + ")");
        for (int i = 0; i < clocks; i++) {
            x.due("clock(0, 0, " + (10 + 10 * i) + ")", i);
            if (from + i >= 0 && from + i < length) {
                x.does("item(0, " + (from + i) + ", " + (90 - 10 * i) + ")");
            }
        }
        return x;
    }

    static void p26TapeBelow0OrAbove5IsNone() {
        Talk x = Talk.house();
        x.still(new String[] {"judge(-1, 0)", "judge(6, 0)", "judge(" + LOWEST + ", 0)", "judge(" + HIGHEST + ", 0)"}, NONE);
        x.due("judge(5, 0)", 100);
    }

    static void p26RowOfAnotherSortIsCast() {
        for (int sort : new int[] {0, 2, 3, 4}) {
            Talk x = Talk.of(0, 0, 10);
            x.does("tape(3, " + sort + ", 2)");
            x.still(new String[] {"judge(3, 0)", "judge(3, -1)", "judge(3, 2)"}, CAST);
            x.does("tape(3, " + sort + ", 0)");
            x.due("judge(3, 0)", CAST);
        }
        Talk none = new Talk();
        none.does("tape(0, 2, 1)");
        none.due("judge(0, 0)", CAST);
    }

    static void p26TapeThatHoldsNothingIs100() {
        Talk x = Talk.of(0, 0, 10);
        x.still(new String[] {"judge(0, 0)", "judge(0, -1)", "judge(0, 59)"}, 100);
        x.does("tape(0, 2, 1)", "tape(0, -1, 0)");
        x.due("judge(0, 0)", 100);
    }

    static void p26PlaceBelow0Is100() {
        Talk x = judged(2, 4, 0);
        x.still(new String[] {"judge(0, -1)", "judge(0, -2)", "judge(0, " + LOWEST + ")"}, 100);
        x.due("judge(0, 0)", WITHOUT);
    }

    static void p26RowThatEndsAheadOfThePlaceIs100() {
        Talk x = judged(1, 4, 3);
        x.still(new String[] {"judge(0, 4)", "judge(0, 5)", "judge(0, " + HIGHEST + ")"}, 100);
        x.due("judge(0, 3)", WITHOUT);
        x.does("tape(0, 1, 0)");
        x.due("judge(0, 0)", 100);
    }

    static void p26RowThatEndsBehindSomeIs100AndHowMany() {
        for (int looked = 1; looked <= 5; looked++) {
            judged(6, 10, 10 - looked).still("judge(0, " + (10 - looked) + ")", 100 + looked);
        }
        judged(6, 60, 55).due("judge(0, 55)", 105);
    }

    static void p26RowJustLongEnough() {
        judged(6, 6, 0).still("judge(0, 0)", WITHOUT);
        judged(6, 60, 54).still("judge(0, 54)", WITHOUT);
    }

    static void p26FirstThatIsOtherwiseIsAheadOfTheEnd() {
        Talk x = judged(6, 5, 0);
        x.due("judge(0, 0)", 105);
        x.does("item(0, 4, 51)");
        x.due("judge(0, 0)", 4);
        x.does("item(0, 1, 79)");
        x.due("judge(0, 0)", 1);
        x.does("item(0, 0, 0)");
        x.due("judge(0, 0)", 0);
    }

    static void p26LastClockMayBeOtherwise() {
        Talk x = judged(6, 9, 3);
        x.does("item(0, 8, 41)");
        x.due("judge(0, 3)", 5);
        x.does("item(0, 8, 40)");
        x.due("judge(0, 3)", WITHOUT);
    }

    static void p26WithoutClocksThereIsNoneToLookAt() {
        Talk x = new Talk();
        x.does("tape(0, 1, 2)");
        x.still("judge(0, 0)", WITHOUT);
        x.due("judge(0, 2)", WITHOUT);
        x.due("judge(0, -1)", WITHOUT);
        x.due("judge(1, 0)", WITHOUT);
    }

    static void p26Heard0And9999() {
        Talk x = Talk.of(0, 0, 100, 0, 0, 0).toDay(9999);
        x.does("tape(0, 1, 2)", "item(0, 1, 9999)");
        x.due("judge(0, 0)", WITHOUT);
        x.does("item(0, 0, -1)");
        x.due("judge(0, 0)", 0);
        x.does("item(0, 0, 65536)", "item(0, 1, 75535)");
        x.due("judge(0, 0)", WITHOUT);
    }

    // ---- promise 27: image

    static void p27WithoutClocks() {
        Talk x = new Talk();
        x.due("image()", 0);
        x.does("clock(0, 0, 0)", "pass(5)", "month(6)");
        x.due("undo()", 0);
        x.due("of(0, 0)", NONE);
        x.due("told(0)", 100);
        x.due("count(3)", 0);
        x.due("clock(3, 0, 100)", 0);
    }

    static void p27OfAllSixClocks() {
        Talk x = Talk.house();
        x.does("clock(0, 0, 9)");
        x.due("image()", 6);
    }

    static void p27ImageOnceMoreIsAsTheFirst() {
        Talk x = Talk.house();
        x.due("image()", 5);
        x.still("image()", 5);
    }

    static void p27NewestImageIsTheOne() {
        Talk x = Talk.of(0, 0, 10);
        x.does("image()", "tell(0)", "image()", "tell(0)");
        x.due("undo()", 1);
        x.due("told(0)", 101);
        x.due("of(0, 2)", 101);
    }

    // ---- promise 28: undo

    static void p28WithoutAnImageIsState() {
        new Talk().still("undo()", STATE);
        Talk x = Talk.of(6, 3, 10);
        x.does("row(0, 0, 4)", "tell(0)");
        x.still("undo()", STATE);
    }

    static void p28RightBehindTheImageChangesNothing() {
        Talk x = Talk.house();
        x.due("image()", 5);
        x.still("undo()", 5);
    }

    static void p28TwiceIsAsOnce() {
        Talk x = Talk.house();
        x.due("undo()", 5);
        x.still("undo()", 5);
        x.does("tell(3)", "month(-1)", "row(0, 1, 9)");
        x.due("undo()", 5);
        x.still("undo()", 5);
        x.due("count(3)", 3);
    }

    static void p28HeardAndBalksAndRowsAreTheImages() {
        Talk x = Talk.of(6, 3, 30, 0, 0, 10);
        x.does("row(0, 0, 1)", "row(0, 3, 9)", "balk(1, true)", "image()");
        x.does("row(0, 0, 8)", "row(0, 1, 7)", "row(0, 3, 0)", "balk(0, true)", "balk(1, false)", "set(0, 1)", "set(1, 2)");
        x.due("undo()", 2);
        x.due("of(0, 2)", 70);
        x.due("of(1, 2)", 90);
        x.due("of(0, 3)", 0);
        x.due("of(1, 3)", 1);
        x.due("row(0, 0, 0)", 1);
        x.due("row(0, 1, 0)", 0);
        x.due("row(0, 3, 0)", 9);
    }

    static void p28RowsAreNotTheSameOnesAsTheImages() {
        Talk x = Talk.of(6, 3, 30);
        x.does("image()", "undo()", "row(0, 2, 5)", "set(0, 3)", "balk(0, true)", "see(0, 0, 0)", "book(0, 1)", "undo()");
        x.due("row(0, 2, 0)", 0);
        x.due("of(0, 2)", 70);
        x.due("of(0, 3)", 0);
        x.due("count(2)", 0);
        x.due("count(4)", 0);
    }

    static void p28FewerClocksHaveRoomForNewOnes() {
        Talk x = Talk.of(6, 1, 10, 0, 0, 0, 0, 0, 0, 0, 0, 0, 0, 0, 0);
        x.does("image()", "clock(6, 9, 20)", "row(5, 0, 5)", "balk(5, true)");
        x.due("clock(0, 0, 0)", FULL);
        x.due("undo()", 5);
        x.due("of(5, 0)", NONE);
        x.due("clock(6, 2, 30)", 5);
        x.due("of(5, 1)", 2);
        x.due("of(5, 2)", 70);
        x.due("of(5, 3)", 0);
        x.due("row(5, 0, 0)", 0);
    }

    static void p28OneEnteredAnewMayBeOfAnotherKindAndV() {
        Talk x = Talk.with("news 9 v=3;news 5 k=2");
        x.does("image()", "clock(2, 3, 20)", "undo()", "clock(4, 5, 10)");
        x.due("news(0, 0)", 1);
        x.due("of(0, 5)", 25);
        x.due("undo()", 0);
        x.due("clock(2, 3, 9)", 0);
        x.due("news(0, 0)", 15);
    }

    static void p28TodayIsTheImages() {
        Talk x = Talk.of(0, 0, 0);
        x.does("image()").toDay(9999);
        x.due("undo()", 1);
        x.due("told(0)", 100);
        x.due("of(0, 2)", 100);
        x.due("set(0, 101)", BAD);
    }

    static void p28SeenIsTheImages() {
        Talk x = Talk.of(0, 0, 10, 0, 0, 20);
        x.does("see(0, 1, 1)", "image()", "see(-1, 0, 0)", "see(1, 999, 1)", "see(1, 999, 2)");
        x.due("undo()", 2);
        x.due("count(2)", 1);
        x.due("since(0, 0)", 1);
        x.due("since(1, 0)", 100);
    }

    static void p28MonthIsTheImages() {
        Talk x = Talk.of(0, 0, 9);
        x.does("month(6)", "month(0)", "image()", "month(-1)", "month(6)", "month(6)", "month(6)");
        x.due("undo()", 1);
        x.due("count(3)", 2);
        x.due("ends(0)", 1);
    }

    static void p28BookIsTheImages() {
        Talk x = Talk.of(0, 0, 9);
        x.does("book(0, 91)", "book(0, 92)", "image()", "book(-1, 0)", "book(0, 1)");
        x.due("undo()", 1);
        x.due("count(4)", 2);
        x.due("looked()", 1);
    }

    static void p28BenchThatHoldsIsTheImages() {
        Talk x = Talk.with("pace 5;news 4 d=1").enter(0, 0, 9);
        x.does("image()");
        Edges.CHECK.due("bench()", x.bench("pace 7"), 1);
        x.due("news(0, 1)", 1);
        x.due("undo()", 1);
        x.due("told(1)", 5);
        x.due("news(0, 1)", 5);
        x.due("of(0, 4)", 13);
    }

    static void p28NoneMayHaveHeldInTheImage() {
        Talk x = Talk.of(0, 0, 9);
        x.does("image()");
        Edges.CHECK.due("bench()", x.bench("pace 7;news 3 d=1"), 0);
        x.due("undo()", 1);
        x.due("told(1)", 10);
        x.due("news(0, 1)", 1);
        x.due("of(0, 4)", 9);
    }

    static void p28BenchesStayAsManyAsTheyAre() {
        Talk x = new Talk();
        x.does("image()");
        for (int i = 0; i < 6; i++) {
            Edges.CHECK.due("bench()", x.bench("pace 1" + i), i);
            x.due("undo()", 0);
            x.due("told(1)", 10);
        }
        x.due("count(1)", 6);
        Edges.CHECK.due("bench()", x.bench("pace 7"), FULL);
    }

    static void p28TextTapesAndTraceAreNoneOfTheImages() {
        Talk x = Talk.of(0, 0, 9);
        x.does("image()", "tape(0, 2, 2)", "item(0, 1, 7)", "act(0, 2, 4)").feeds("pace 1");
        x.due("undo()", 1);
        x.due("count(5)", 6);
        x.due("read(0, 1)", 7);
        x.due("count(6)", 3);
        x.due("trace(2)", 10);
    }

    // ---- promise 29: act

    static void p29ClockThatIsNotThereIs0AndNoTraceThen() {
        for (String call : new String[] {"act(-1, 0, 5)", "act(2, 0, 5)", "act(6, 2, 5)", "act(" + LOWEST + ", 1, 5)", "act(" + HIGHEST + ", 1, 5)"}) {
            Talk x = Talk.of(0, 1, 0, 1, 1, 0);
            x.due("act(1, 2, 5)", 2 * ((6 - 1) ^ 6));
            x.due("count(6)", 4);
            x.due(call, 0);
            x.due("count(6)", 0);
            x.due("trace(0)", NONE);
        }
    }

    static void p29ActBelow0OrAbove2Is0AndNoTraceThen() {
        for (String call : new String[] {"act(0, -1, 5)", "act(0, 3, 5)", "act(0, " + LOWEST + ", 5)", "act(0, " + HIGHEST + ", 5)"}) {
            Talk x = Talk.of(0, 1, 0);
            x.due("act(0, 2, 5)", 8);
            x.due("count(6)", 3);
            x.due(call, 0);
            x.due("count(6)", 0);
            x.due("trace(0)", NONE);
        }
    }

    static void p29ActOfNothingChangesNothingElse() {
        Talk x = Talk.house();
        x.due("act(5, 0, 1)", 0);
        x.still(new String[] {"act(5, 0, 1)", "act(-1, 0, 1)", "act(0, 3, 1)", "act(0, -1, 1)"}, 0);
    }

    static void p29Acts0And2AreTaken() {
        Talk x = Talk.of(0, 1, 0);
        x.due("act(0, 0, 5)", 5);
        x.due("act(0, 1, 5)", 4);
        x.due("act(0, 2, 5)", 8);
    }

    static void p29ActChangesNothingButTheTrace() {
        Talk x = Talk.house();
        long due = x.say("act(0, 2, 4)");
        x.still("act(0, 2, 4)", due);
    }

    private static void wraps(String name, int kind, int v, int i, int act, int x, int want) {
        Talk talk = new Talk();
        for (int at = 0; at < i; at++) {
            talk.does("clock(0, 0, 0)");
        }
        talk.does("clock(" + kind + ", " + v + ", 0)");
        Edges.CHECK.due(name, talk.say("act(" + i + ", " + act + ", " + x + ")"), want);
    }

    static void p29XAndIWrap() {
        wraps("10", 0, 0, 1, 0, MAX, MIN);
        wraps("10", 0, 0, 5, 0, MAX, MIN + 4);
        wraps("10", 0, 0, 0, 0, MAX, MAX);
        wraps("10", 0, 0, 0, 0, MIN, MIN);
    }

    static void p29TicksLessVWrap() {
        wraps("11", 0, 9, 0, 1, MIN, MAX - 8);
        wraps("11", 0, 9, 0, 1, MAX, MAX - 9);
    }

    static void p29TwiceStrikesWrap() {
        wraps("12", 0, 0, 0, 2, 1 << 30, MIN);
        wraps("12", 0, 0, 0, 2, MAX, -2);
        wraps("12", 0, 0, 0, 2, MIN, 0);
    }

    static void p29SuperStrikesAnd6AtTheEnds() {
        wraps("20", 1, 0, 0, 1, MAX, MAX - 6);
        wraps("20", 1, 0, 0, 1, MIN, MIN + 6);
        wraps("20", 1, 1, 0, 1, MIN, MAX - 6);
    }

    static void p29ThriceXWraps() {
        wraps("30", 2, 0, 0, 0, 1431655766, 2);
        wraps("30", 2, 0, 0, 0, MAX, MAX - 2);
        wraps("30", 2, 0, 0, 0, MIN, MIN);
    }

    static void p29TellsAndStrikesOfSlowWrap() {
        wraps("40", 3, 9, 0, 2, (1 << 30) + 9, MAX - 7);
        wraps("40", 3, 0, 0, 2, MAX, -1);
    }

    static void p29LessTicksOfTheLowestIsTheLowest() {
        wraps("50", 4, 0, 0, 0, MIN, MIN);
        wraps("50", 4, 0, 1, 0, MAX, MIN);
        wraps("50", 4, 0, 0, 0, MAX, MIN + 1);
    }

    static void p29XAnd1Wrap() {
        wraps("51", 4, 0, 0, 1, MAX, MIN + 6);
    }

    static void p29XLessIWraps() {
        wraps("60", 5, 0, 1, 2, MIN, -4);
        wraps("60", 5, 0, 0, 2, MIN, 0);
    }

    static void p29StrikesOfToldWrap() {
        wraps("70", 6, 0, 0, 1, MAX, MIN + 1);
        wraps("70", 6, 9, 0, 1, MIN, MIN + 9 - 9 + 2);
    }

    static void p29TicksOfToldAndVAtTheEnds() {
        wraps("71", 6, 9, 0, 0, MAX, MAX - 9);
        wraps("71", 6, 9, 0, 0, MIN, MIN + 9);
        wraps("71", 6, 9, 1, 0, MAX, MIN + 9);
    }

    static void p29KindWithoutABodyTakesTheNextAboveThatHasOne() {
        int[][] due = {{10, 11, 12}, {10, 20, 12}, {30, 11, 12}, {10, 11, 40}, {50, 51, 12}, {30, 11, 60}, {71, 70, 40}};
        for (int kind = 0; kind <= 6; kind++) {
            Talk x = Talk.of(kind, 1, 0);
            for (int act = 0; act <= 2; act++) {
                x.say("act(0, " + act + ", 5)");
                x.due("trace(0)", due[kind][act]);
            }
        }
    }

    // ---- promise 30: trace

    static void p30AheadOfAnyActIsNone() {
        Talk x = Talk.of(0, 0, 0);
        x.still(new String[] {"trace(0)", "trace(1)", "trace(19)", "trace(-1)"}, NONE);
    }

    static void p30FirstAndLastBodyAndBeyond() {
        Talk x = Talk.of(0, 0, 0);
        x.due("act(0, 2, 5)", 10);
        x.still("trace(0)", 12);
        x.still("trace(2)", 10);
        x.still(new String[] {"trace(-1)", "trace(3)", "trace(" + LOWEST + ")", "trace(" + HIGHEST + ")"}, NONE);
    }

    static void p30LongestTraceIsKeptWhole() {
        Talk x = Talk.of(6, 0, 0);
        x.say("act(0, 2, 5)");
        int[] due = {40, 12, 70, 11, 71, 10, 10, 70, 11, 71, 10, 10};
        x.due("count(6)", due.length);
        for (int i = 0; i < due.length; i++) {
            x.due("trace(" + i + ")", due[i]);
        }
        x.due(new String[] {"trace(12)", "trace(19)", "trace(20)", "trace(21)"}, NONE);
    }

    static void p30ShorterTraceLeavesNothingOfTheLongerOne() {
        Talk x = Talk.of(6, 0, 0, 0, 0, 0);
        x.say("act(0, 2, 5)");
        x.due("act(1, 0, 5)", 6);
        x.due("trace(0)", 10);
        x.due("trace(1)", NONE);
        x.due("trace(11)", NONE);
    }

    // ---- promise 31: taken

    static void p31KBelow0OrAbove6IsBad() {
        Talk x = Talk.house();
        x.still(new String[] {"taken(0, -1)", "taken(0, 7)", "taken(0, " + LOWEST + ")", "taken(0, " + HIGHEST + ")"}, BAD);
    }

    static void p31ClockThatIsNotThereIsNothing() {
        Talk x = Talk.house();
        x.still(new String[] {"taken(-1, 0)", "taken(5, 0)", "taken(6, 6)", "taken(" + LOWEST + ", 0)", "taken(" + HIGHEST + ", 0)"}, NOTHING);
    }

    static void p31BadComesAheadOfNothing() {
        Talk x = new Talk();
        x.due("taken(0, 7)", BAD);
        x.due("taken(-1, -1)", BAD);
        x.due("taken(0, 0)", NOTHING);
    }

    static void p31OneAboveOrBesideIsCast() {
        int[] above = {-1, 0, 0, 0, 1, 2, 3};
        for (int kind = 0; kind <= 6; kind++) {
            Talk x = Talk.of(kind, 0, 0);
            for (int k = 0; k <= 6; k++) {
                x.due("taken(0, " + k + ")", k == kind || k == 0 || k == above[kind] ? kind : CAST);
            }
        }
        Talk.house().still(new String[] {"taken(0, 1)", "taken(4, 4)"}, CAST);
    }

    // ---- promise 32: count

    static void p32WhatBelow0OrAbove6IsBad() {
        Talk x = Talk.house();
        x.still(new String[] {"count(-1)", "count(7)", "count(" + LOWEST + ")", "count(" + HIGHEST + ")"}, BAD);
    }

    static void p32EachAtItsMost() {
        Talk x = fullOfAll();
        int[] due = {6, 6, 5, 10, 8, 100, 12};
        for (int what = 0; what < 7; what++) {
            x.due("count(" + what + ")", due[what]);
        }
    }

    private static Talk fullOfAll() {
        Talk x = Talk.of(6, 0, 0, 6, 0, 0, 6, 0, 0, 6, 0, 0, 6, 0, 0, 6, 0, 0);
        for (int i = 0; i < 6; i++) {
            Edges.CHECK.due("bench()", x.bench("pace 1"), i);
        }
        for (int i = 0; i < 10; i++) {
            x.does("month(0)");
        }
        for (int i = 0; i < 8; i++) {
            x.does("book(0, 0)");
        }
        for (int i = 0; i < 5; i++) {
            x.does("see(0, 0, 0)");
        }
        for (int i = 0; i < 100; i++) {
            x.does("feed(1)");
        }
        x.say("act(5, 2, 0)");
        return x;
    }

    static void p32WhatIsFullStaysFull() {
        Talk x = fullOfAll();
        x.still(new String[] {"clock(0, 0, 0)", "bench()", "see(0, 0, 0)", "month(0)", "book(0, 0)", "feed(0)"}, FULL);
    }

    static void p32EachIs0AtFirst() {
        Talk x = new Talk();
        for (int what = 0; what < 7; what++) {
            x.still("count(" + what + ")", 0);
        }
    }

    // ---- promise 33: tape

    static void p33TapeBelow0OrAbove5IsNone() {
        Talk x = Talk.house();
        x.still(new String[] {"tape(-1, 0, 1)", "tape(6, 0, 1)", "tape(-1, -1, 0)", "tape(6, -1, 0)", "tape(" + LOWEST + ", 0, 1)",
            "tape(" + HIGHEST + ", 0, 1)"}, NONE);
    }

    static void p33SortBelowMinus1OrAbove4IsBad() {
        Talk x = Talk.house();
        x.still(new String[] {"tape(0, -2, 1)", "tape(0, 5, 1)", "tape(0, " + LOWEST + ", 1)", "tape(0, " + HIGHEST + ", 1)"}, BAD);
    }

    static void p33NAbove60IsBad() {
        Talk x = Talk.house();
        for (int sort = 0; sort <= 4; sort++) {
            x.due("tape(" + sort + ", " + sort + ", 61)", BAD);
        }
        x.still(new String[] {"tape(0, 1, 61)", "tape(1, 0, " + HIGHEST + ")"}, BAD);
    }

    static void p33NBelow0IsSize() {
        Talk x = Talk.house();
        for (int sort = 0; sort <= 4; sort++) {
            x.due("tape(" + sort + ", " + sort + ", -1)", SIZE);
        }
        x.still(new String[] {"tape(0, 1, -1)", "tape(1, 0, " + LOWEST + ")"}, SIZE);
    }

    static void p33Tapes0And5OfNoneAndOf60Items() {
        Talk x = new Talk();
        for (int sort = 0; sort <= 4; sort++) {
            x.due("tape(0, " + sort + ", 60)", 1);
            x.due("read(0, 59)", 0);
            x.due("read(0, 60)", NO);
            x.due("item(0, 59, 1)", 1);
            x.due("item(0, 60, 1)", PLACE);
            x.due("tape(5, " + sort + ", 0)", 1);
            x.due("read(5, 0)", NO);
            x.due("item(5, 0, 1)", PLACE);
            x.due("tape(5, " + sort + ", 1)", 1);
            x.due("read(5, 0)", 0);
            x.due("read(5, 1)", NO);
        }
    }

    static void p33SortMinus1HoldsNothingWhateverNIs() {
        for (String n : new String[] {"0", "1", "-1", "61", HIGHEST, LOWEST}) {
            Talk x = new Talk();
            x.does("tape(2, 1, 3)");
            x.due("tape(2, -1, " + n + ")", 1);
            x.due("read(2, 0)", NO);
            x.due("item(2, 0, 1)", NOTHING);
            x.still("tape(2, -1, " + n + ")", 1);
        }
    }

    static void p33NoneComesAheadOfBadAndThatAheadOfSize() {
        Talk x = new Talk();
        x.due("tape(6, 5, -1)", NONE);
        x.due("tape(-1, 0, 61)", NONE);
        x.due("tape(0, 5, -1)", BAD);
        x.due("tape(0, -2, -1)", BAD);
    }

    static void p33RowMadeAnewIsAll0() {
        Talk x = new Talk();
        x.does("tape(0, 3, 3)", "item(0, 0, 5)", "item(0, 2, 6)", "tape(0, 3, 3)");
        for (int i = 0; i < 3; i++) {
            x.due("read(0, " + i + ")", 0);
        }
        x.does("item(0, 2, 6)", "tape(0, 1, 2)", "tape(0, 1, 3)");
        x.due("read(0, 2)", 0);
        x.does("item(0, 2, 6)", "tape(0, -1, 0)", "tape(0, 1, 3)");
        x.due("read(0, 2)", 0);
    }

    // ---- promise 34: item

    static void p34TapeBelow0OrAbove5IsNone() {
        Talk x = Talk.house();
        x.still(new String[] {"item(-1, 0, 1)", "item(6, 0, 1)", "item(" + LOWEST + ", 0, 1)", "item(" + HIGHEST + ", 0, 1)"}, NONE);
    }

    static void p34TapeThatHoldsNothingIsNothing() {
        Talk x = Talk.house();
        x.still(new String[] {"item(5, 0, 1)", "item(5, -1, 1)", "item(5, 60, 1)"}, NOTHING);
    }

    static void p34PlaceBelow0OrBehindTheLastIsPlace() {
        Talk x = Talk.house();
        x.still(new String[] {"item(0, -1, 1)", "item(0, 4, 1)", "item(0, " + LOWEST + ", 1)", "item(0, " + HIGHEST + ", 1)"}, PLACE);
        x.does("tape(0, 1, 0)");
        x.still("item(0, 0, 1)", PLACE);
    }

    static void p34FirstAndLastPlaceAreTaken() {
        Talk x = new Talk();
        x.does("tape(5, 2, 4)");
        x.due("item(5, 0, 8)", 1);
        x.due("item(5, 3, 9)", 1);
        int[] due = {8, 0, 0, 9};
        for (int i = 0; i < 4; i++) {
            x.due("read(5, " + i + ")", due[i]);
        }
    }

    private static void cut(int sort, long v, long want) {
        Talk x = new Talk();
        x.does("tape(0, " + sort + ", 1)");
        x.due("item(0, 0, " + v + ")", 1);
        x.due("read(0, 0)", want);
    }

    static void p34BytesKeepTheLowest8Bits() {
        long[][] due = {{127, 127}, {128, -128}, {255, -1}, {256, 0}, {-128, -128}, {-129, 127}, {Long.MAX_VALUE, -1}, {NO, 0}};
        for (long[] v : due) {
            cut(0, v[0], v[1]);
        }
    }

    static void p34ShortsKeepTheLowest16Bits() {
        long[][] due = {{32767, 32767}, {32768, -32768}, {65535, -1}, {65536, 0}, {-32768, -32768}, {-32769, 32767},
            {Long.MAX_VALUE, -1}, {NO, 0}};
        for (long[] v : due) {
            cut(1, v[0], v[1]);
        }
    }

    static void p34IntsKeepTheLowest32Bits() {
        long[][] due = {{MAX, MAX}, {MAX + 1L, MIN}, {(1L << 32) - 1, -1}, {1L << 32, 0}, {MIN, MIN}, {MIN - 1L, MAX},
            {Long.MAX_VALUE, -1}, {NO, 0}};
        for (long[] v : due) {
            cut(2, v[0], v[1]);
        }
    }

    static void p34LongsKeepAll64Bits() {
        for (long v : new long[] {0, -1, 1L << 32, Long.MAX_VALUE, Long.MIN_VALUE, Long.MIN_VALUE + 1}) {
            cut(3, v, v);
        }
    }

    static void p34BooleansKeepWhetherVIsNot0() {
        long[][] due = {{0, 0}, {1, 1}, {2, 1}, {-1, 1}, {256, 1}, {1L << 32, 1}, {NO, 1}, {Long.MAX_VALUE, 1}};
        for (long[] v : due) {
            cut(4, v[0], v[1]);
        }
        Talk x = new Talk();
        x.does("tape(0, 4, 1)", "item(0, 0, 5)", "item(0, 0, 0)");
        x.due("read(0, 0)", 0);
    }

    // ---- promise 35: read

    static void p35TapeBelow0OrAbove5IsNo() {
        Talk x = Talk.house();
        x.still(new String[] {"read(-1, 0)", "read(6, 0)", "read(" + LOWEST + ", 0)", "read(" + HIGHEST + ", 0)"}, NO);
    }

    static void p35TapeThatHoldsNothingIsNo() {
        Talk x = Talk.house();
        x.still(new String[] {"read(5, 0)", "read(5, -1)"}, NO);
    }

    static void p35PlaceBelow0OrBehindTheLastIsNo() {
        Talk x = Talk.house();
        x.still(new String[] {"read(0, -1)", "read(0, 4)", "read(0, " + LOWEST + ")", "read(0, " + HIGHEST + ")"}, NO);
        x.still("read(0, 0)", 0);
        x.still("read(0, 3)", 0);
        x.still("read(3, 1)", -9);
    }

    static void p35ShorterRowEndsEarlier() {
        Talk x = new Talk();
        x.does("tape(0, 0, 5)", "tape(0, 0, 2)");
        x.due("read(0, 1)", 0);
        x.due("read(0, 2)", NO);
    }

    // ---- promise 36: shift

    /** TAPE 0: ints 1 .. 5; TAPE 1: ints 0, 0, 0; TAPE 2: longs; TAPE 3: nothing. */
    private static Talk rows() {
        Talk x = new Talk();
        x.does("tape(0, 2, 5)", "tape(1, 2, 3)", "tape(2, 3, 5)");
        for (int i = 0; i < 5; i++) {
            x.does("item(0, " + i + ", " + (i + 1) + ")", "item(2, " + i + ", 9)");
        }
        return x;
    }

    private static void holds(Talk x, int tape, int... items) {
        for (int i = 0; i < items.length; i++) {
            x.due("read(" + tape + ", " + i + ")", items[i]);
        }
    }

    static void p36TapesBelow0OrAbove5AreNone() {
        Talk x = Talk.house();
        x.still(new String[] {"shift(-1, 0, 0, 0, 1)", "shift(6, 0, 0, 0, 1)", "shift(0, 0, -1, 0, 1)", "shift(0, 0, 6, 0, 1)",
            "shift(" + LOWEST + ", 0, 0, 0, 1)", "shift(0, 0, " + HIGHEST + ", 0, 1)"}, NONE);
    }

    static void p36TapeThatHoldsNothingIsNothing() {
        Talk x = rows();
        x.still(new String[] {"shift(3, 0, 0, 0, 1)", "shift(0, 0, 3, 0, 1)", "shift(3, 0, 4, 0, 0)", "shift(5, 0, 5, 0, 0)"}, NOTHING);
    }

    static void p36UnlikeSortsAreCast() {
        Talk x = new Talk();
        for (int sort = 0; sort <= 4; sort++) {
            x.does("tape(" + sort + ", " + sort + ", 2)");
        }
        for (int one = 0; one <= 4; one++) {
            for (int two = 0; two <= 4; two++) {
                x.due("shift(" + one + ", 0, " + two + ", 0, 1)", one == two ? 1 : CAST);
            }
        }
        rows().still(new String[] {"shift(0, 0, 2, 0, 1)", "shift(2, 0, 1, 0, 0)"}, CAST);
    }

    static void p36NIOrJBelow0IsPlace() {
        Talk x = rows();
        x.still(new String[] {"shift(0, 0, 1, 0, -1)", "shift(0, -1, 1, 0, 1)", "shift(0, 0, 1, -1, 1)", "shift(0, -1, 1, 0, 0)",
            "shift(0, 0, 1, -1, 0)", "shift(0, 5, 1, 3, -1)", "shift(0, " + LOWEST + ", 1, 0, 1)", "shift(0, 0, 1, " + LOWEST + ", 1)",
            "shift(0, 0, 1, 0, " + LOWEST + ")"}, PLACE);
    }

    static void p36BeyondEithersEndIsPlace() {
        Talk x = rows();
        x.still(new String[] {"shift(0, 5, 1, 0, 1)", "shift(0, 3, 1, 0, 3)", "shift(0, 0, 1, 1, 3)", "shift(0, 0, 1, 3, 1)",
            "shift(0, 0, 1, 0, 4)", "shift(1, 0, 0, 0, 4)", "shift(0, 6, 1, 0, 0)", "shift(0, 0, 1, 4, 0)"}, PLACE);
        x.still(new String[] {"shift(0, " + HIGHEST + ", 1, 0, 1)", "shift(0, 0, 1, " + HIGHEST + ", 1)", "shift(0, 0, 1, 0, " + HIGHEST + ")",
            "shift(0, 1, 1, 0, " + HIGHEST + ")", "shift(0, " + HIGHEST + ", 1, 0, " + HIGHEST + ")",
            "shift(0, " + HIGHEST + ", 1, " + HIGHEST + ", 0)"}, PLACE);
    }

    static void p36UpToEithersEndIsTaken() {
        Talk x = rows();
        x.due("shift(0, 2, 1, 0, 3)", 3);
        holds(x, 1, 3, 4, 5);
        x.due("shift(0, 0, 1, 2, 1)", 1);
        holds(x, 1, 3, 4, 1);
        x.due("shift(1, 0, 0, 2, 3)", 3);
        holds(x, 0, 1, 2, 3, 4, 1);
    }

    static void p36NoItemsAtTheEndsChangeNothing() {
        Talk x = rows();
        x.still(new String[] {"shift(0, 5, 1, 3, 0)", "shift(0, 0, 1, 0, 0)", "shift(0, 5, 0, 0, 0)"}, 0);
        x.does("tape(4, 2, 0)");
        x.still(new String[] {"shift(4, 0, 0, 5, 0)", "shift(4, 0, 4, 0, 0)"}, 0);
        x.still(new String[] {"shift(4, 0, 0, 0, 1)", "shift(0, 0, 4, 0, 1)"}, PLACE);
    }

    static void p36OntoItselfAsTheyAllWereBefore() {
        Talk x = rows();
        x.due("shift(0, 0, 0, 1, 4)", 4);
        holds(x, 0, 1, 1, 2, 3, 4);
        Talk y = rows();
        y.due("shift(0, 1, 0, 0, 4)", 4);
        holds(y, 0, 2, 3, 4, 5, 5);
        rows().still("shift(0, 0, 0, 0, 5)", 5);
    }

    static void p36AllSixtyItems() {
        Talk x = new Talk();
        x.does("tape(0, 0, 60)", "tape(5, 0, 60)", "item(0, 0, 1)", "item(0, 59, 2)");
        x.due("shift(0, 0, 5, 0, 60)", 60);
        x.due("read(5, 0)", 1);
        x.due("read(5, 59)", 2);
        x.due("read(5, 30)", 0);
        x.due("shift(0, 0, 5, 0, 61)", PLACE);
        x.due("shift(0, 1, 5, 0, 60)", PLACE);
    }

    static void p36NoneAheadOfNothingAheadOfCastAheadOfPlace() {
        Talk x = rows();
        x.due("shift(3, -1, 6, 0, 1)", NONE);
        x.due("shift(-1, 0, 3, 0, 1)", NONE);
        x.due("shift(3, -1, 0, 0, 1)", NOTHING);
        x.due("shift(2, 9, 3, 0, 1)", NOTHING);
        x.due("shift(0, -1, 2, 0, 1)", CAST);
        x.due("shift(0, 0, 2, 9, -1)", CAST);
    }

    public static void main(String[] args) throws ReflectiveOperationException {
        Edges.run(EdgesOfTapesTest.class, 26, 36);
    }
}
