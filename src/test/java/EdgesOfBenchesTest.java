/** One test for each sentence that names a boundary: promises 1 to 10, with the terms that they use. */
public final class EdgesOfBenchesTest {
    private static final int NONE = -1, BAD = -2, STATE = -3, FULL = -4, WITHOUT = -5;
    private static final long NO = Long.MIN_VALUE;
    private static final String HIGHEST = "2147483647", LOWEST = "-2147483648";

    // ---- promise 1: a new object

    static void p01NewObjectHasNoClocks() {
        Talk x = new Talk();
        x.due("count(0)", 0);
        x.due("of(0, 0)", NONE);
        x.due("told(2)", 0);
        x.due("told(3)", 0);
    }

    static void p01NewObjectHasNoBench() {
        Talk x = new Talk();
        x.due("count(1)", 0);
        x.due("told(1)", 10);
    }

    static void p01NewObjectHasNoText() {
        Talk x = new Talk();
        x.due("count(5)", 0);
        x.due("bench()", -10);
    }

    static void p01TodayIs100AtFirst() {
        new Talk().due("told(0)", 100);
    }

    static void p01TapesHoldNothingAtFirst() {
        Talk x = new Talk();
        for (int tape = 0; tape < 6; tape++) {
            x.due("read(" + tape + ", 0)", NO);
            x.due("item(" + tape + ", 0, 1)", -11);
        }
    }

    static void p01NothingSeenNoMonthNoBookNoTraceAtFirst() {
        Talk x = new Talk();
        for (int what = 2; what <= 6; what++) {
            x.due("count(" + what + ")", 0);
        }
        x.due("trace(0)", NONE);
    }

    static void p01NoImageAtFirst() {
        new Talk().due("undo()", STATE);
    }

    static void p01ConstantsAreAsTold() {
        Edges.CHECK.due("NONE", ClocksTold.NONE, NONE);
        Edges.CHECK.due("BAD", ClocksTold.BAD, BAD);
        Edges.CHECK.due("STATE", ClocksTold.STATE, STATE);
        Edges.CHECK.due("FULL", ClocksTold.FULL, FULL);
        Edges.CHECK.due("NO", ClocksTold.NO, NO);
    }

    static void p01NewObjectSharesNothingWithOthers() {
        Talk.house();
        Talk x = new Talk();
        for (int what = 0; what <= 6; what++) {
            x.due("count(" + what + ")", 0);
        }
        x.due("undo()", STATE);
        x.due("told(1)", 10);
    }

    static void p01All512CallsAreAnswered() {
        Talk x = Talk.of(0, 0, 5, 0, 0, 5, 0, 0, 5, 0, 0, 5, 0, 0, 5, 0, 0, 5);
        for (int i = 6; i < Talk.MOST_CALLS; i += 2) {
            x.due("most(5, -1)", 5);
            x.due("soonest(-1)", 6);
        }
    }

    // ---- promise 2: clock

    static void p02KindBelow0OrAbove6IsNone() {
        Talk x = Talk.house();
        x.still(new String[] {"clock(-1, 0, 0)", "clock(7, 0, 0)", "clock(" + LOWEST + ", 0, 0)",
            "clock(" + HIGHEST + ", 0, 0)"}, NONE);
    }

    static void p02Kinds0To6AreTaken() {
        for (int kind = 0; kind <= 6; kind++) {
            Talk x = Talk.of(kind, 0, 0);
            x.due("of(0, 0)", kind);
        }
    }

    static void p02vBelow0OrAbove9IsBad() {
        Talk x = Talk.house();
        x.still(new String[] {"clock(0, -1, 0)", "clock(0, 10, 0)", "clock(0, " + LOWEST + ", 0)",
            "clock(0, " + HIGHEST + ", 0)"}, BAD);
    }

    static void p02v0And9AreTaken() {
        Talk x = Talk.of(0, 0, 0, 0, 9, 0);
        x.due("of(0, 1)", 0);
        x.due("of(1, 1)", 9);
    }

    static void p02AgoBelow0OrAboveTodayIsBad() {
        Talk x = new Talk();
        x.still(new String[] {"clock(0, 0, -1)", "clock(0, 0, 101)", "clock(0, 0, " + LOWEST + ")",
            "clock(0, 0, " + HIGHEST + ")"}, BAD);
    }

    static void p02Ago0AndTodayAreTaken() {
        Talk x = Talk.of(0, 0, 0, 0, 0, 100);
        x.due("of(0, 2)", 100);
        x.due("of(1, 2)", 0);
    }

    static void p02AgoGoesUpToTodayAsItIsThen() {
        Talk x = new Talk();
        x.due("pass(1)", 101);
        x.due("clock(0, 0, 102)", BAD);
        x.due("clock(0, 0, 101)", 0);
        x.due("of(0, 2)", 0);
        x.toDay(9999);
        x.due("clock(0, 0, 10000)", BAD);
        x.due("clock(0, 0, 9999)", 1);
        x.due("of(1, 2)", 0);
    }

    static void p02NumbersAre0To5AsTheyCome() {
        Talk x = new Talk();
        for (int i = 0; i < 6; i++) {
            x.due("clock(" + i + ", " + (9 - i) + ", " + i + ")", i);
        }
        for (int i = 0; i < 6; i++) {
            x.due("of(" + i + ", 0)", i);
            x.due("of(" + i + ", 1)", 9 - i);
            x.due("of(" + i + ", 2)", 100 - i);
        }
    }

    static void p02SixthIsTakenSeventhIsFull() {
        Talk x = Talk.house();
        x.due("clock(3, 9, 7)", 5);
        x.due("count(0)", 6);
        x.still("clock(0, 0, 0)", FULL);
        x.due("count(0)", 6);
    }

    static void p02NoneComesAheadOfBadAndThatAheadOfFull() {
        Talk x = Talk.of(0, 0, 0, 0, 0, 0, 0, 0, 0, 0, 0, 0, 0, 0, 0);
        x.due("clock(7, 10, -1)", NONE);
        x.due("clock(0, 0, 0)", 5);
        x.due("clock(7, 10, -1)", NONE);
        x.due("clock(7, 0, 0)", NONE);
        x.due("clock(0, 10, 0)", BAD);
        x.due("clock(0, 0, 101)", BAD);
    }

    static void p02NewOneDoesNotBalkAtFirst() {
        Talk.of(5, 0, 10).due("of(0, 3)", 0);
    }

    static void p02RowOfANewOneIs0AtFirst() {
        Talk x = Talk.of(6, 0, 10);
        for (int part = 0; part < 4; part++) {
            x.due("row(0, " + part + ", 0)", 0);
        }
    }

    static void p02OneThatStopped0DaysAgoIsUp() {
        Talk x = Talk.of(0, 0, 0, 0, 0, 1);
        x.due("told(2)", 1);
    }

    // ---- promise 3: of

    static void p03ClockBelow0OrBehindTheLastIsNone() {
        Talk x = Talk.house();
        for (int what = 0; what < 8; what++) {
            x.due("of(-1, " + what + ")", NONE);
            x.due("of(5, " + what + ")", NONE);
            x.due("of(" + HIGHEST + ", " + what + ")", NONE);
            x.due("of(" + LOWEST + ", " + what + ")", NONE);
        }
        x.due("of(4, 0)", 1);
        x.due("clock(0, 0, 0)", 5);
        x.due("of(5, 0)", 0);
        x.due("of(6, 0)", NONE);
    }

    static void p03WhatBelow0OrAbove7IsNone() {
        Talk x = Talk.house();
        x.still(new String[] {"of(0, -1)", "of(0, 8)", "of(0, " + LOWEST + ")", "of(0, " + HIGHEST + ")"}, NONE);
    }

    static void p03OfIsAskedAndChangesNothing() {
        Talk x = Talk.house();
        int[] due = {2, 2, 83, 1};
        for (int what = 0; what < 4; what++) {
            x.still("of(2, " + what + ")", due[what]);
        }
        x.still("of(3, 4)", 41 + 4 * 5 - 1);
        x.still("of(3, 5)", 14);
        x.still("of(3, 6)", WITHOUT);
        x.still("of(4, 7)", 0);
    }

    static void p03LeftOfOneUpIs0() {
        Talk x = Talk.with("news 9 d<9").enter(0, 0, 0);
        x.due("of(0, 4)", 0);
    }

    static void p03LeftIsFromHeardOnAndAheadOfToday() {
        Talk x = Talk.with("news 20 h=90;news 40 h=99;news 80 h=0;news 60 h=89").enter(0, 0, 10);
        x.due("of(0, 4)", 10 + 20 + 40);
    }

    static void p03LeftFromDay0On() {
        Talk x = Talk.with("news 20 h=0").enter(0, 0, 100);
        x.due("of(0, 4)", 100 + 20);
        x.toDay(9999);
        x.due("of(0, 4)", 9999 + 100 * 20);
    }

    static void p03HoldsOfClockCuckooBetIsPace() {
        for (int kind : new int[] {0, 2, 5}) {
            Talk.of(kind, 9, 0).due("of(0, 5)", 10);
            Talk.with("pace 1").enter(kind, 9, 0).due("of(0, 5)", 1);
            Talk.with("pace 99").enter(kind, 9, 0).due("of(0, 5)", 99);
        }
    }

    static void p03HoldsOfFastIsTwicePace() {
        Talk.of(1, 9, 0).due("of(0, 5)", 20);
        Talk.with("pace 0").enter(1, 9, 0).due("of(0, 5)", 2);
        Talk.with("pace 99").enter(1, 9, 0).due("of(0, 5)", 198);
    }

    static void p03HoldsOfSlowIsHalfOfPaceCut() {
        Talk.with("pace 3").enter(3, 9, 0).due("of(0, 5)", 1);
        Talk.with("pace 99").enter(3, 9, 0).due("of(0, 5)", 49);
    }

    static void p03HoldsOfSlowIs1AtLeast() {
        Talk.with("pace 1").enter(3, 9, 0).due("of(0, 5)", 1);
        Talk.with("pace 2").enter(3, 9, 0).due("of(0, 5)", 1);
        Talk.with("pace 4").enter(3, 9, 0).due("of(0, 5)", 2);
    }

    static void p03HoldsOfWatchIsAsFastAndV() {
        Talk.with("pace 7").enter(4, 0, 0).due("of(0, 5)", 14);
        Talk.with("pace 7").enter(4, 9, 0).due("of(0, 5)", 23);
        Talk.with("pace 99").enter(4, 9, 0).due("of(0, 5)", 207);
    }

    static void p03HoldsOfToldIsAsSlowAndRow() {
        Talk x = Talk.with("pace 1").enter(6, 9, 0);
        x.due("of(0, 5)", 1);
        x.does("row(0, 0, 9)");
        x.due("of(0, 5)", 1 + 9);
        Talk y = Talk.with("pace 99").enter(6, 9, 0);
        y.due("of(0, 5)", 49);
        y.does("row(0, 0, 9)");
        y.due("of(0, 5)", 49 + 9);
    }

    static void p03HoldsOfToldWrapsWithTodayModulo4() {
        Talk x = Talk.of(6, 0, 0);
        x.does("row(0, 0, 1)", "row(0, 1, 2)", "row(0, 2, 3)", "row(0, 3, 4)");
        int[] due = {6, 7, 8, 9, 6, 7};
        for (int want : due) {
            x.due("of(0, 5)", want);
            x.does("pass(1)");
        }
    }

    static void p03MindsIfNewsIsMoreThanVAnd3Together() {
        Talk x = Talk.with("news 5 h=95").enter(2, 2, 10, 2, 3, 10, 5, 2, 10, 5, 3, 10);
        x.due("of(0, 6)", 95);
        x.due("of(1, 6)", WITHOUT);
        x.due("of(2, 6)", 95);
        x.due("of(3, 6)", WITHOUT);
        Talk y = Talk.with("news 3 h=95;news 12 h=96").enter(2, 0, 10, 2, 9, 10);
        y.due("of(0, 6)", 95);
        y.due("of(1, 6)", 96);
    }

    static void p03MindsFromVAnd4OnForEachV() {
        for (int v = 0; v <= 9; v++) {
            for (int kind : new int[] {2, 5}) {
                Talk.with("news " + (v + 2) + " h=97").enter(kind, v, 10).due("of(0, 6)", WITHOUT);
                Talk.with("news " + (v + 3) + " h=97").enter(kind, v, 10).due("of(0, 6)", 97);
            }
        }
    }

    static void p03BetDoesNotMindMultiplesOfVAnd2() {
        Talk x = Talk.with("news 98 h<99").enter(5, 0, 4, 5, 1, 4, 5, 2, 4, 5, 9, 1, 5, 9, 12);
        x.due("of(0, 6)", 97);
        x.due("of(1, 6)", 97);
        x.due("of(2, 6)", 97);
        x.due("of(3, 6)", WITHOUT);
        x.due("of(4, 6)", 89);
    }

    static void p03BetDoesNotMindMultiplesAmongHighDays() {
        for (int v = 0; v <= 9; v++) {
            Talk x = Talk.with("news 98 d<9|d=9").enter(5, v, 0).toDay(9999);
            for (int from : new int[] {95, 995, 1095, 9985}) {
                for (int day = from; day < from + 13; day++) {
                    x.does("set(0, " + day + ")");
                    x.due("of(0, 6)", day % (v + 2) != 0 ? day : day + 1);
                }
            }
        }
    }

    static void p03Day0IsAMultipleThatNoBetMinds() {
        Talk x = Talk.with("news 98 h=0").enter(5, 0, 100, 2, 0, 100);
        x.due("of(0, 6)", WITHOUT);
        x.due("of(1, 6)", 0);
        Talk y = Talk.with("news 98 h<2").enter(5, 9, 100);
        y.due("of(0, 6)", 1);
    }

    static void p03AllOtherKindsNeverMind() {
        for (int kind : new int[] {0, 1, 3, 4, 6}) {
            Talk.with("news 99 h<99").enter(kind, 0, 100).due("of(0, 6)", WITHOUT);
        }
    }

    static void p03MindedLooksFromHeardOn() {
        Talk x = Talk.with("news 9 h=80;news 9 h=90").enter(2, 0, 20, 2, 0, 19);
        x.due("of(0, 6)", 80);
        x.due("of(1, 6)", 90);
    }

    static void p03MindedLooksAheadOfTodayOnly() {
        Talk x = Talk.with("news 9 h=0").enter(2, 0, 20, 2, 0, 0);
        x.due("of(0, 6)", WITHOUT);
        x.due("of(1, 6)", WITHOUT);
        x.due("pass(1)", 101);
        x.due("of(0, 6)", 100);
        x.due("of(1, 6)", WITHOUT);
    }

    static void p03MindedMayBeFarFromHeard() {
        Talk x = Talk.with("news 98 h=50").enter(2, 0, 49, 5, 8, 100).toDay(150);
        x.due("of(0, 6)", WITHOUT);
        x.does("pass(1)");
        x.due("of(0, 6)", 150);
        x.due("of(1, 6)", WITHOUT);
        Talk y = Talk.with("news 98 h=55").enter(5, 9, 100).toDay(155);
        y.due("of(0, 6)", WITHOUT);
        y.does("pass(1)");
        y.due("of(0, 6)", 155);
    }

    static void p03MindedOfOneThatBalksIsMinus5() {
        Talk x = Talk.with("news 9 h=80").enter(2, 0, 20);
        x.does("balk(0, true)");
        x.due("of(0, 6)", WITHOUT);
    }

    static void p03WholeOfOneUpIs0() {
        Talk x = Talk.of(0, 0, 0, 0, 0, 1);
        x.due("of(0, 7)", 0);
        x.due("of(1, 7)", 1);
    }

    static void p03WholeIs60AtMost() {
        Talk x = Talk.with("pace 2").enter(0, 0, 61, 0, 0, 62, 0, 0, 60);
        x.due("of(0, 7)", 60);
        x.due("of(1, 7)", WITHOUT);
        x.due("of(2, 7)", 59);
    }

    static void p03WholeOfOneThatBalksIsMinus5ButIfItIsUp() {
        Talk x = Talk.of(0, 0, 1, 0, 0, 0);
        x.does("balk(0, true)", "balk(1, true)");
        x.due("of(0, 7)", WITHOUT);
        x.due("of(1, 7)", 0);
    }

    static void p03WholeGoesOnBeyond9999() {
        Talk x = Talk.of(0, 0, 0).toDay(9999);
        x.does("set(0, 9969)");
        x.due("of(0, 7)", 4);
    }

    // ---- promise 4: news

    static void p04ClockBelow0OrBehindTheLastIsNone() {
        Talk x = Talk.house();
        x.still(new String[] {"news(-1, 0)", "news(5, 0)", "news(" + LOWEST + ", 0)", "news(" + HIGHEST + ", 0)"}, NONE);
    }

    static void p04DayBelow0OrAbove9999IsBad() {
        Talk x = Talk.house();
        x.still(new String[] {"news(0, -1)", "news(0, 10000)", "news(0, " + LOWEST + ")", "news(0, " + HIGHEST + ")"}, BAD);
    }

    static void p04Days0And9999AreTaken() {
        Talk x = Talk.with("news 5 h=0;news 7 h=99").enter(0, 0, 0);
        x.still("news(0, 0)", 6);
        x.still("news(0, 9999)", 8);
    }

    static void p04NoneComesAheadOfBad() {
        new Talk().due("news(0, -1)", NONE);
        Talk.of(0, 0, 0).due("news(1, 10000)", NONE);
    }

    static void p04NewsIs1Without() {
        Talk x = Talk.of(0, 0, 0);
        x.due("news(0, 0)", 1);
        x.due("bench()", -10);
        x.due("news(0, 0)", 1);
        Talk.with("pace 5").enter(0, 0, 0).due("news(0, 0)", 1);
    }

    static void p04NewsIs0AtLeast() {
        Talk x = Talk.with("hush 2 d=1;hush 99 d=2;hush 1 d=3").enter(0, 0, 0);
        x.due("news(0, 1)", 0);
        x.due("news(0, 2)", 0);
        x.due("news(0, 3)", 0);
        x.due("news(0, 4)", 1);
    }

    static void p04NewsAndHushAreTakenTogetherAheadOfTheCutAt0() {
        Talk x = Talk.with("hush 99 d<9;news 99 d<9;news 3 d=1").enter(0, 0, 0);
        x.due("news(0, 1)", 4);
        x.due("news(0, 2)", 1);
    }

    static void p04NewsOfAllClausesTogetherAtMost() {
        Talk x = Talk.with("news 99 d<9;news 99 d<9;news 99 d<9;news 99 d<9;news 99 d<9;news 99 d<9;news 99 d<9;pace 99");
        x.enter(1, 0, 100);
        x.due("news(0, 8)", 1 + 7 * 99);
        x.due("news(0, 9)", 1);
        x.due("of(0, 4)", 90 * 694 + 10);
        x.toDay(9999);
        x.due("of(0, 4)", 694 * 9000 + 999);
    }

    static void p04NOfNewsMayBe0() {
        Talk.with("news 0 d=1;hush 00 d=1").enter(0, 0, 0).due("news(0, 1)", 1);
    }

    static void p04dWrapsAt10() {
        Talk x = Talk.with("news 5 d=0;news 7 d=9").enter(0, 0, 0);
        int[][] due = {{0, 6}, {1, 1}, {8, 1}, {9, 8}, {10, 6}, {19, 8}, {9990, 6}, {9999, 8}};
        for (int[] day : due) {
            x.due("news(0, " + day[0] + ")", day[1]);
        }
        Talk.with("news 5 d>9").enter(0, 0, 0).due("news(0, 19)", 1);
    }

    static void p04tIsCutAndWrapsAt100() {
        Talk x = Talk.with("news 5 t=0;news 7 t=9;news 9 t=1").enter(0, 0, 0);
        int[][] due = {{0, 6}, {9, 6}, {10, 10}, {19, 10}, {20, 1}, {89, 1}, {90, 8}, {99, 8}, {100, 6}, {109, 6},
            {110, 10}, {9999, 8}};
        for (int[] day : due) {
            x.due("news(0, " + day[0] + ")", day[1]);
        }
        Talk.with("news 5 t>9").enter(0, 0, 0).due("news(0, 100)", 1);
    }

    static void p04hWrapsAt100() {
        Talk x = Talk.with("news 5 h=0;news 7 h=99").enter(0, 0, 0);
        int[][] due = {{0, 6}, {1, 1}, {98, 1}, {99, 8}, {100, 6}, {199, 8}, {200, 6}, {9900, 6}, {9999, 8}};
        for (int[] day : due) {
            x.due("news(0, " + day[0] + ")", day[1]);
        }
        Talk.with("news 5 h>99").enter(0, 0, 0).due("news(0, 100)", 1);
    }

    static void p04LessEqualMoreAtTheirEdges() {
        Talk x = Talk.with("news 1 d<5;news 10 d=5;news 20 d>5").enter(0, 0, 0);
        x.due("news(0, 4)", 2);
        x.due("news(0, 5)", 11);
        x.due("news(0, 6)", 21);
        Talk y = Talk.with("news 5 h<00;news 7 h>00;news 9 h<99").enter(0, 0, 0);
        y.due("news(0, 0)", 10);
        y.due("news(0, 1)", 17);
        y.due("news(0, 99)", 8);
    }

    static void p04EachLetterSignAndNumber() {
        int[] is = {1, 4, 7, 8, 9, 98};
        for (int letter = 0; letter < 6; letter++) {
            for (int n = 0; n < 100; n++) {
                String number = n < 10 && n % 2 == 0 ? "0" + n : "" + n;
                String e = "ckvdth".charAt(letter) + "S" + number;
                Talk x = Talk.with("news 2 " + e.replace('S', '<') + ";news 4 " + e.replace('S', '=') + ";news 8 " + e.replace('S', '>'));
                x.enter(0, 0, 0, 4, 7, 0);
                x.due("news(1, 1298)", 1 + (is[letter] < n ? 2 : is[letter] == n ? 4 : 8));
            }
        }
    }

    static void p04cIsTheFirstsAndTheLastsNumber() {
        Talk x = Talk.with("news 5 c<1;news 7 c=5;news 9 c>5").enter(0, 0, 0, 0, 0, 0, 0, 0, 0, 0, 0, 0, 0, 0, 0, 0, 0, 0);
        int[] due = {6, 1, 1, 1, 1, 8};
        for (int i = 0; i < 6; i++) {
            x.due("news(" + i + ", 0)", due[i]);
        }
    }

    static void p04kIsTheFirstAndTheLastKind() {
        Talk x = Talk.with("news 5 k=0;news 7 k=6;news 9 k>6").enter(0, 0, 0, 6, 0, 0, 3, 0, 0);
        x.due("news(0, 0)", 6);
        x.due("news(1, 0)", 8);
        x.due("news(2, 0)", 1);
    }

    static void p04vIsTheLeastAndTheMost() {
        Talk x = Talk.with("news 5 v=0;news 7 v=9;news 9 v>9").enter(0, 0, 0, 0, 9, 0, 0, 1, 0, 0, 8, 0);
        int[] due = {6, 8, 1, 1};
        for (int i = 0; i < 4; i++) {
            x.due("news(" + i + ", 0)", due[i]);
        }
    }

    // ---- promise 5: set

    static void p05ClockBelow0OrBehindTheLastIsNone() {
        Talk x = Talk.house();
        x.still(new String[] {"set(-1, 0)", "set(5, 0)", "set(" + LOWEST + ", 0)", "set(" + HIGHEST + ", 0)"}, NONE);
    }

    static void p05NBelow0OrAboveTodayIsBad() {
        Talk x = Talk.house();
        x.due("told(0)", 101);
        x.still(new String[] {"set(0, -1)", "set(0, 102)", "set(0, " + LOWEST + ")", "set(0, " + HIGHEST + ")"}, BAD);
    }

    static void p05N0AndTodayAreTaken() {
        Talk x = Talk.of(0, 0, 10);
        x.due("set(0, 0)", 90);
        x.due("of(0, 2)", 0);
        x.due("told(2)", 0);
        x.due("set(0, 100)", 0);
        x.due("of(0, 2)", 100);
        x.due("told(2)", 1);
        x.does("pass(1)");
        x.due("set(0, 102)", BAD);
        x.due("set(0, 101)", 101);
    }

    static void p05TodayMayBe9999() {
        Talk x = Talk.of(0, 0, 10).toDay(9999);
        x.due("set(0, 10000)", BAD);
        x.due("set(0, 9999)", 90);
        x.due("told(2)", 1);
    }

    static void p05NoneComesAheadOfBad() {
        Talk.of(0, 0, 10).due("set(1, -1)", NONE);
    }

    // ---- promise 6: balk

    static void p06ClockBelow0OrBehindTheLastIsNone() {
        Talk x = Talk.house();
        x.still(new String[] {"balk(-1, true)", "balk(5, true)", "balk(" + LOWEST + ", false)",
            "balk(" + HIGHEST + ", false)"}, NONE);
    }

    static void p06BalkingOneOrNotOnceMoreChangesNothing() {
        Talk x = Talk.of(0, 0, 10, 0, 0, 10);
        x.still("balk(0, false)", 0);
        x.due("balk(0, true)", 0);
        x.still("balk(0, true)", 1);
        x.due("of(1, 3)", 0);
        x.due("balk(0, false)", 1);
        x.due("of(0, 3)", 0);
    }

    // ---- promise 7: row

    static void p07ClockBelow0OrBehindTheLastIsNone() {
        Talk x = Talk.house();
        x.still(new String[] {"row(-1, 0, 0)", "row(5, 0, 0)", "row(" + LOWEST + ", 0, 0)", "row(" + HIGHEST + ", 0, 0)"}, NONE);
    }

    static void p07PartBelow0OrAbove3IsNone() {
        Talk x = Talk.house().enter();
        x.still(new String[] {"row(0, -1, 1)", "row(0, 4, 1)", "row(0, " + LOWEST + ", 1)", "row(0, " + HIGHEST + ", 1)"}, NONE);
    }

    static void p07Parts0And3AreTaken() {
        Talk x = Talk.of(6, 0, 0);
        x.due("row(0, 0, 4)", 0);
        x.due("row(0, 3, 5)", 0);
        x.due("row(0, 0, 0)", 4);
        x.due("row(0, 3, 0)", 5);
        x.due("row(0, 1, 0)", 0);
        x.due("row(0, 2, 0)", 0);
    }

    static void p07LastPartOfOneIsNotTheFirstOfTheNext() {
        Talk x = Talk.of(6, 0, 0, 6, 0, 0, 6, 0, 0, 6, 0, 0, 6, 0, 0, 6, 0, 0);
        for (int i = 0; i < 24; i++) {
            x.due("row(" + i / 4 + ", " + i % 4 + ", " + (i % 9 + 1) + ")", 0);
        }
        for (int part = 0; part < 4; part++) {
            for (int clock = 0; clock < 6; clock++) {
                x.due("of(" + clock + ", 5)", 5 + (clock * 4 + part) % 9 + 1);
            }
            x.does("pass(1)");
        }
        for (int i = 0; i < 24; i++) {
            x.due("row(" + i / 4 + ", " + i % 4 + ", 0)", i % 9 + 1);
        }
    }

    static void p07NBelow0OrAbove9IsBad() {
        Talk x = Talk.house();
        x.still(new String[] {"row(0, 1, -1)", "row(0, 1, 10)", "row(0, 1, " + LOWEST + ")", "row(0, 1, " + HIGHEST + ")"}, BAD);
    }

    static void p07N0And9AreTaken() {
        Talk x = Talk.of(6, 0, 0);
        x.due("row(0, 2, 9)", 0);
        x.due("row(0, 2, 0)", 9);
        x.due("row(0, 2, 0)", 0);
    }

    static void p07AnotherKindIsState() {
        for (int kind = 0; kind < 6; kind++) {
            Talk.of(kind, 3, 10).still("row(0, 0, 5)", STATE);
        }
    }

    static void p07NoneComesAheadOfBadAndThatAheadOfState() {
        Talk x = Talk.of(3, 0, 0);
        x.due("row(1, 0, 10)", NONE);
        x.due("row(0, 4, 10)", NONE);
        x.due("row(0, 4, 1)", NONE);
        x.due("row(0, 0, 10)", BAD);
        x.due("row(0, 0, -1)", BAD);
    }

    // ---- promise 8: feed

    static void p08SignBelow0OrAbove127IsBad() {
        Talk x = Talk.house();
        x.still(new String[] {"feed(-1)", "feed(128)", "feed(" + LOWEST + ")", "feed(" + HIGHEST + ")"}, BAD);
    }

    static void p08Signs0And127AreTaken() {
        Talk x = new Talk();
        x.due("feed(0)", 1);
        x.due("feed(127)", 2);
        x.due("count(5)", 2);
    }

    static void p08HundredthIsTakenAndTheNextIsFull() {
        Talk x = new Talk().feeds("pace 12");
        for (int i = 8; i <= 100; i++) {
            x.due("feed(59)", i);
        }
        x.still("feed(59)", FULL);
        x.due("count(5)", 100);
    }

    static void p08BadComesAheadOfFull() {
        Talk x = new Talk();
        for (int i = 1; i <= 100; i++) {
            x.due("feed(32)", i);
        }
        x.due("feed(128)", BAD);
        x.due("feed(-1)", BAD);
    }

    static void p08TextHasRoomAgainBehindABench() {
        Talk x = new Talk();
        for (int i = 1; i <= 100; i++) {
            x.due("feed(32)", i);
        }
        x.due("bench()", -10);
        x.due("feed(32)", 1);
    }

    // ---- promise 9: bench

    /** A text with a ^ ahead of the byte that is the FAULT. */
    private static void fault(String... texts) {
        for (String marked : texts) {
            int place = marked.indexOf('^');
            Talk x = new Talk();
            x.feeds(marked.substring(0, place) + marked.substring(place + 1));
            Edges.CHECK.due("bench() of '" + marked + "'", x.say("bench()"), -10 - place);
            x.due("count(1)", 0);
        }
    }

    private static void taken(String... texts) {
        for (String text : texts) {
            Edges.CHECK.due("bench() of '" + text + "'", new Talk().bench(text), 0);
        }
    }

    static void p09SixthBenchIsTakenTheSeventhIsFull() {
        Talk x = new Talk();
        for (int i = 0; i < 6; i++) {
            Edges.CHECK.due("bench() number " + i, x.bench("pace 1" + i), i);
            x.due("told(1)", 10 + i);
        }
        x.feeds("pace 7");
        x.still("bench()", FULL);
        x.due("count(1)", 6);
        x.due("told(1)", 15);
    }

    private static Talk fullOfBenches() {
        Talk x = new Talk();
        for (int i = 0; i < 6; i++) {
            x.bench("pace 1" + i);
        }
        return x;
    }

    static void p09AtFullTheTextStays() {
        Talk x = fullOfBenches().feeds("pace 7");
        x.due("bench()", FULL);
        x.due("count(5)", 6);
        x.due("feed(32)", 7);
    }

    static void p09FullComesAheadOfAFault() {
        Talk x = fullOfBenches();
        x.still("bench()", FULL);
        x.feeds("pace x");
        x.still("bench()", FULL);
        x.due("count(5)", 6);
    }

    static void p09RefusedTextsAreNoBenches() {
        Talk x = new Talk();
        for (int i = 0; i < 8; i++) {
            Edges.CHECK.due("bench()", x.bench("pace"), -14);
        }
        x.due("count(1)", 0);
        Edges.CHECK.due("bench()", x.bench("pace 3"), 0);
    }

    static void p09TextIsEmptyBehindABench() {
        Talk x = Talk.with("pace 5");
        x.due("count(5)", 0);
        x.due("bench()", -10);
    }

    static void p09TextIsEmptyBehindAFault() {
        Talk x = new Talk();
        Edges.CHECK.due("bench()", x.bench("pace 5x"), -16);
        x.due("count(5)", 0);
        x.due("bench()", -10);
    }

    static void p09AtAFaultTheOneThatHeldHolds() {
        Talk x = Talk.with("pace 5;news 3 d=1").enter(0, 0, 9);
        Edges.CHECK.due("bench()", x.bench("pace 7;news 9 d=1;"), -28);
        x.due("told(1)", 5);
        x.due("news(0, 1)", 4);
        x.due("of(0, 4)", 9 + 3);
        x.due("bench()", -10);
        x.due("told(1)", 5);
    }

    static void p09NothingOfATextWithAFaultIsLeft() {
        Talk x = Talk.of(0, 0, 9);
        Edges.CHECK.due("bench()", x.bench("pace 7;news 5 d=1;hush 1 d=3;x"), -39);
        Edges.CHECK.due("bench()", x.bench("news 3 d=2"), 0);
        x.due("told(1)", 10);
        int[] due = {1, 1, 4, 1};
        for (int day = 0; day < 4; day++) {
            x.due("news(0, " + day + ")", due[day]);
        }
        Edges.CHECK.due("bench()", x.bench("news 8 (d=1|d=2"), -25);
        x.due("news(0, 2)", 4);
        Edges.CHECK.due("bench()", x.bench("pace 3"), 1);
        x.due("news(0, 1)", 1);
        x.due("news(0, 2)", 1);
    }

    static void p09NothingOfManyLongTextsWithFaultsIsLeft() {
        Talk x = Talk.of(0, 0, 9);
        String text = "news 9 d=1&d=1&d=1&d=1&d=1&d=1&d=1&d=1&d=1&d=1&d=1&d=1&d=1&d=1&d=1&d=1&d=1&d=1|d=2|d=3|d=4&!";
        for (int i = 0; i < 4; i++) {
            Edges.CHECK.due("bench()", x.bench(text), -10 - text.length());
        }
        Edges.CHECK.due("bench()", x.bench("news 9 d=5&t=1|d=2;hush 1 d=3"), 0);
        x.due("news(0, 2)", 10);
        x.due("news(0, 5)", 1);
        x.due("news(0, 15)", 10);
        x.due("news(0, 3)", 0);
    }

    static void p09AtAFaultOnlyTheTextIsOtherwise() {
        Talk x = Talk.house();
        x.due("count(5)", 6);
        x.feeds("x");
        x.due("bench()", -16);
        x.still("bench()", -10);
        x.due("count(1)", 1);
        x.due("told(1)", 6);
    }

    static void p09EmptyTextHasItsFaultAtItsEnd() {
        fault("^");
    }

    static void p09ClausesAre10AtMost() {
        String nine = "pace 1;pace 1;pace 1;pace 1;pace 1;pace 1;pace 1;pace 1;pace 1;";
        taken(nine + "pace 9");
        fault(nine + "pace 9^;pace 1", nine + "pace 9^;", nine + "pace 99^;", nine + "^");
        taken("news 1 d=1;hush 1 d=1;news 1 d=1;hush 1 d=1;news 1 d=1;pace 1;pace 1;pace 1;pace 1;pace 1");
        fault("news 1 d=1;hush 1 d=1;news 1 d=1;hush 1 d=1;pace 1;pace 1;pace 1;pace 1;pace 1;news 1 d=1^;");
    }

    static void p09TenthClauseHolds() {
        Talk x = Talk.with("pace 1;pace 1;pace 1;pace 1;pace 1;pace 1;pace 1;pace 1;pace 1;news 7 d=1").enter(0, 0, 0);
        x.due("news(0, 1)", 8);
    }

    static void p09ClausesAre1AtLeast() {
        taken("pace 1", "news 1 d=1", "hush 1 d=1");
        fault("^;", "^;pace 1", "pace 1;^", "pace 1;^;pace 1");
    }

    static void p09WordsToTheirLastByte() {
        fault("^x", "n^", "n^w", "ne^", "ne^v", "new^", "news^", "new^ 1", "h^", "h^a", "hu^", "hus^", "hush^", "hus^ 1", "p^",
            "p^c", "pa^", "pac^", "pace^", "pac^ 1", "news^s 1", "pace^1", "^N", "^ pace 1");
    }

    static void p09OneBlankAheadOfEachPart() {
        fault("news^1 d=1", "news ^ 1 d=1", "news 1^d=1", "news 1 ^ d=1", "hush^1 d=1", "hush ^ 1 d=1", "hush 1^d=1",
            "hush 1 ^ d=1", "pace^1", "pace ^ 1", "news 12^d=1");
    }

    static void p09NoBlankElsewhere() {
        fault("pace 1^ ", "pace 1^ ;pace 1", "pace 1;^ pace 1", "news 1 d^ =1", "news 1 d=^ 1", "news 1 d=1^ ", "news 1 d=1^ &d=1",
            "news 1 d=1&^ d=1", "news 1 (^ d=1)", "news 1 !^ d=1", "pace 1^ 2");
    }

    static void p09NIs1Or2Digits() {
        taken("pace 0", "pace 9", "pace 00", "pace 99", "news 0 d=1", "news 99 d=1", "hush 0 d=1", "hush 99 d=1");
        fault("pace ^", "pace ^;", "pace ^x", "pace ^-1", "pace 1^x", "pace 12^3", "pace 00^0", "news ^ 1", "news ^d=1",
            "news 12^3 d=1", "hush ^d=1", "hush 12^3 d=1", "pace ^/", "pace ^:", "pace 1^/", "pace 1^:");
    }

    static void p09TestsNumberIs1Or2Digits() {
        taken("news 1 d=0", "news 1 d=9", "news 1 d=00", "news 1 d=99");
        fault("news 1 d=^", "news 1 d=^x", "news 1 d=^-1", "news 1 d=1^x", "news 1 d=12^3", "news 1 d=^;", "news 1 d=^/", "news 1 d=^:");
    }

    static void p09TestHasOneLetterOfSix() {
        taken("news 1 c=1", "news 1 k=1", "news 1 v=1", "news 1 d=1", "news 1 t=1", "news 1 h=1");
        fault("news 1 ^", "news 1 ^x=1", "news 1 ^=1", "news 1 d^d=1", "news 1 ^1", "news 1 ^D=1", "news 1 ^e=1", "news 1 ^b=1");
    }

    static void p09TestHasOneSignOfThree() {
        taken("news 1 c<1", "news 1 c=1", "news 1 c>1");
        fault("news 1 c^", "news 1 c^1", "news 1 c^!1", "news 1 c<^=1", "news 1 c=^=1", "news 1 c^;", "news 1 c^?1");
    }

    static void p09RowsOfTAndFHaveOneAtLeast() {
        taken("news 1 c=1&d=1", "news 1 c=1|d=1", "news 1 c=1&d=1|c=1&d=1");
        fault("news 1 ^&c=1", "news 1 ^|c=1", "news 1 c=1&^", "news 1 c=1|^", "news 1 c=1&^&c=1", "news 1 c=1|^|c=1", "news 1 c=1&^|c=1",
            "news 1 c=1|^&c=1", "news 1 c=1&^;", "news 1 c=1|^;", "news 1 c=1&^)", "news 1 (c=1|^)");
    }

    static void p09BracketsHoldOneE() {
        taken("news 1 (c=1)", "news 1 (c=1|d=1)&(d=1)");
        fault("news 1 (^)", "news 1 (^", "news 1 (c=1^", "news 1 (c=1^;", "news 1 (c=1^(", "news 1 c=1^)", "news 1 (c=1)^)", "news 1 ^)",
            "news 1 (c=1)^(d=1)", "news 1 (c=1)^d=1", "news 1 (c=1)^!d=1");
    }

    static void p09NotHasOneF() {
        taken("news 1 !c=1", "news 1 !!c=1", "news 1 !(c=1)");
        fault("news 1 !^", "news 1 !^)", "news 1 !^&c=1", "news 1 !^;", "news 1 c=1^!", "news 1 c^!=1");
    }

    static void p09BracketWithinFourOthersIsNone() {
        taken("news 1 ((((c=1))))");
        fault("news 1 ((((^(c=1)))))", "news 1 ((((^(", "news 1 ((((c=1|^(", "news 1 ((((c=1&^(", "news 1 (((c=1&(^(");
    }

    static void p09NotWithinFourOthersIsNone() {
        taken("news 1 !!!!c=1");
        fault("news 1 !!!!^!c=1", "news 1 !!!!^!", "news 1 (((!^!c=1");
    }

    static void p09BracketsAndNotsCountTogether() {
        taken("news 1 !(!(c=1))", "news 1 (!(!c=1))", "news 1 !!!(c=1)", "news 1 (((!c=1)))");
        fault("news 1 !(!(^(", "news 1 !(!(^!", "news 1 (!(!^(", "news 1 (!(!^!", "news 1 !!!(^(", "news 1 !!!(^!", "news 1 (((!^(",
            "news 1 !!!!^(", "news 1 ((((^!");
    }

    static void p09ThoseBesideOneAnotherAreNotWithin() {
        taken("news 1 ((((c=1))))&((((c=1))))", "news 1 !!!!c=1|!!!!c=1&!!!!c=1", "news 1 (((!c=1|!c=1)&(c=1)))",
            "news 1 ((((c=1))));news 1 ((((c=1))))", "news 1 (c=1)&(c=1)&(c=1)&(c=1)&(c=1)&(c=1)");
    }

    static void p09FaultIsTheEndIfTheTextEndsTooEarly() {
        String whole = "hush 12 !(c<1|h>99)&k=2;pace 5";
        for (int n = 0; n <= whole.length(); n++) {
            Talk x = new Talk();
            Edges.CHECK.due("bench() of '" + whole.substring(0, n) + "'", x.bench(whole.substring(0, n)), n == 19 || n == 23 || n == 30 ? 0 : -10 - n);
        }
    }

    static void p09FaultIsTheFirstByteOnly() {
        fault("pace ^x;pace y", "^xpace 1", "pace 1;^x;x", "news 1 ^x=123;pace 123");
    }

    static void p09BytesOfAllValuesAreLookedAt() {
        for (int sign : new int[] {0, 1, 9, 10, 31, 33, 127}) {
            Talk x = new Talk().feeds("pace 1");
            x.due("feed(" + sign + ")", 7);
            x.due("bench()", -16);
            Talk y = new Talk();
            y.due("feed(" + sign + ")", 1);
            y.due("bench()", -10);
        }
    }

    private static final String DIGITS = "0123456789", FACTORS = "ckvdth!(", TESTS = "ckvdth";

    /** Each byte behind a text: with the due ones a bench may begin so, any other is the fault. */
    private static void dueBehind(String text, String due) {
        for (int sign = 0; sign <= 127; sign++) {
            long got = new Talk().bench(text + (char) sign);
            boolean isFault = got == -10 - text.length();
            boolean mayBegin = got == 0 || got == -10 - text.length() - 1;
            boolean isDue = due.indexOf(sign) >= 0;
            Edges.CHECK.due("bench() of '" + text + "' and byte " + sign + ": " + got, isDue ? mayBegin ? 1 : 0 : isFault ? 1 : 0, 1);
        }
    }

    static void p09EachByteBehindWords() {
        dueBehind("", "nhp");
        for (String word : new String[] {"news ", "hush ", "pace "}) {
            for (int i = 1; i < word.length(); i++) {
                dueBehind(word.substring(0, i), word.substring(i, i + 1));
            }
            dueBehind(word, DIGITS);
        }
        dueBehind("pace 1", DIGITS + ";");
        dueBehind("pace 12", ";");
        dueBehind("pace 1;", "nhp");
        for (String word : new String[] {"news ", "hush "}) {
            dueBehind(word + "1", DIGITS + " ");
            dueBehind(word + "12", " ");
            dueBehind(word + "1 ", FACTORS);
        }
    }

    static void p09EachByteInsideAnE() {
        dueBehind("news 1 c", "<=>");
        dueBehind("hush 1 h>", DIGITS);
        dueBehind("news 1 v<1", DIGITS + "&|;");
        dueBehind("news 1 v<12", "&|;");
        dueBehind("news 1 v<12|", FACTORS);
        dueBehind("news 1 v<12&", FACTORS);
        dueBehind("news 1 !", FACTORS);
        dueBehind("news 1 (", FACTORS);
        dueBehind("news 1 !!!", FACTORS);
        dueBehind("news 1 (((", FACTORS);
        dueBehind("news 1 !!!!", TESTS);
        dueBehind("news 1 ((((", TESTS);
        dueBehind("news 1 (!(!", TESTS);
        dueBehind("news 1 ((((c=1|", TESTS);
        dueBehind("news 1 ((((c=1&", TESTS);
        dueBehind("news 1 (((!c=1&", FACTORS);
        dueBehind("news 1 (c=1", DIGITS + "&|)");
        dueBehind("news 1 (c=12", "&|)");
        dueBehind("news 1 (c=12)", "&|;");
        dueBehind("news 1 ((c=12)", "&|)");
        dueBehind("news 1 c=1;", "nhp");
    }

    static void p09EachByteBehindTheTenthClause() {
        dueBehind("pace 1;".repeat(9) + "pace 1", DIGITS);
        dueBehind("pace 1;".repeat(9) + "pace 12", "");
        dueBehind("pace 1;".repeat(8) + "pace 12", ";");
        dueBehind("pace 1;".repeat(9) + "hush 1 c=12", "&|");
    }

    private static String hundred() {
        StringBuilder text = new StringBuilder("news 10 d=0");
        while (text.length() < 91) {
            text.append("|d=1");
        }
        return text + "&d=1|t=33";
    }

    static void p09TextOf100BytesIsReadToItsEnd() {
        String text = hundred();
        Edges.CHECK.due("length", text.length(), 100);
        Talk x = new Talk().enter(0, 0, 0);
        Edges.CHECK.due("bench() of " + text, x.bench(text), 0);
        x.due("news(0, 0)", 11);
        x.due("news(0, 3)", 1);
        Talk y = new Talk().enter(0, 0, 0);
        Edges.CHECK.due("bench()", y.bench(text.substring(0, 99)), 0);
        y.due("news(0, 30)", 11);
        y.due("news(0, 35)", 11);
    }

    static void p09FaultAt99And100() {
        String text = hundred();
        Edges.CHECK.due("bench()", new Talk().bench(text.substring(0, 99) + "x"), -109);
        Edges.CHECK.due("bench()", new Talk().bench(text.substring(0, 99) + ";"), -110);
        Edges.CHECK.due("bench()", new Talk().bench(text.substring(0, 97) + ")))"), -107);
        Edges.CHECK.due("bench()", new Talk().bench(text.substring(0, 95) + "&!!h="), -110);
    }

    static void p09DeepestExpressionsHold() {
        Talk x = Talk.with("news 9 (d=1|(d=2|(d=3|(d=4|d=5&t=1)&t<3)&t<4)&t<5)&t<6").enter(0, 0, 0);
        int[][] due = {{1, 10}, {61, 1}, {2, 10}, {52, 1}, {42, 10}, {33, 10}, {43, 1}, {24, 10}, {34, 1}, {15, 10}, {5, 1}, {0, 1}};
        for (int[] day : due) {
            x.due("news(0, " + day[0] + ")", day[1]);
        }
        Talk y = Talk.with("news 9 !!!!d=1&!(!(d=1))&!!!d=2").enter(0, 0, 0);
        y.due("news(0, 1)", 10);
        y.due("news(0, 2)", 1);
    }

    // ---- promise 10: told

    static void p10WhatBelow0OrAbove3IsNone() {
        Talk x = Talk.house();
        x.still(new String[] {"told(-1)", "told(4)", "told(" + LOWEST + ")", "told(" + HIGHEST + ")"}, NONE);
    }

    static void p10ToldIsAskedAndChangesNothing() {
        Talk x = Talk.house();
        x.still("told(0)", 101);
        x.still("told(1)", 6);
        x.still("told(2)", 1);
        x.still("told(3)", x.say("of(0, 4)") + x.say("of(1, 4)") + x.say("of(2, 4)") + x.say("of(3, 4)"));
    }

    static void p10PaceIs10Without() {
        new Talk().due("told(1)", 10);
        Talk.with("news 1 d=1").due("told(1)", 10);
        Talk x = Talk.with("pace 5");
        x.due("told(1)", 5);
        Edges.CHECK.due("bench()", x.bench("hush 1 d=1"), 1);
        x.due("told(1)", 10);
    }

    static void p10PaceIs1IfLess() {
        Talk.with("pace 0").due("told(1)", 1);
        Talk.with("pace 00").due("told(1)", 1);
        Talk.with("pace 1").due("told(1)", 1);
        Talk.with("pace 2").due("told(1)", 2);
    }

    static void p10PaceIs99AtMost() {
        Talk.with("pace 99").due("told(1)", 99);
    }

    static void p10PaceIsTheLastsN() {
        Talk.with("pace 9;pace 3;news 1 d=1").due("told(1)", 3);
        Talk.with("pace 3;pace 9").due("told(1)", 9);
        Talk.with("pace 9;pace 0").due("told(1)", 1);
    }

    static void p10WithoutClocksNoneAreUpAndNothingIsLeft() {
        Talk x = new Talk();
        x.due("told(2)", 0);
        x.due("told(3)", 0);
    }

    static void p10AllSixMayBeUp() {
        Talk x = Talk.of(0, 0, 0, 1, 0, 0, 2, 0, 0, 3, 0, 0, 4, 0, 0, 5, 0, 0);
        x.due("told(2)", 6);
        x.due("told(3)", 0);
        x.due("set(5, 99)", 100);
        x.due("told(2)", 5);
        x.due("told(3)", 1);
    }

    static void p10TodayIs9999AtMost() {
        Talk x = new Talk().toDay(9999);
        x.due("pass(1)", STATE);
        x.due("told(0)", 9999);
    }

    public static void main(String[] args) throws ReflectiveOperationException {
        Edges.run(EdgesOfBenchesTest.class, 1, 10);
    }
}
