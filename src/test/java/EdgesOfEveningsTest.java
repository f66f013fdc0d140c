/** One test for each sentence that names a boundary: promises 11 to 25, with the terms that they use. */
public final class EdgesOfEveningsTest {
    private static final int NONE = -1, BAD = -2, STATE = -3, FULL = -4, WITHOUT = -5;
    private static final long NO = Long.MIN_VALUE;
    private static final String HIGHEST = "2147483647", LOWEST = "-2147483648";

    // ---- promise 11: tell

    static void p11ClockBelow0OrBehindTheLastIsNone() {
        Talk x = Talk.house();
        x.still(new String[] {"tell(-1)", "tell(5)", "tell(6)", "tell(" + LOWEST + ")", "tell(" + HIGHEST + ")"}, NONE);
    }

    static void p11At9998IsToldAt9999IsState() {
        Talk x = Talk.of(0, 0, 10).toDay(9998);
        x.due("tell(0)", 10);
        x.due("told(0)", 9999);
        x.still("tell(0)", STATE);
        x.due("of(0, 2)", 100);
    }

    static void p11NoneComesAheadOfState() {
        Talk x = Talk.of(0, 0, 10).toDay(9999);
        x.due("tell(1)", NONE);
        x.due("tell(-1)", NONE);
    }

    static void p11FirstDayIsToldThoughItIsMoreThanItHolds() {
        Talk x = Talk.with("news 98 h=90").enter(0, 0, 10);
        x.due("tell(0)", 1);
        x.due("of(0, 2)", 91);
    }

    static void p11DaysFitUpToJustWhatItHolds() {
        Talk x = Talk.with("news 8 h=91").enter(0, 0, 10);
        x.due("tell(0)", 2);
        Talk y = Talk.with("news 9 h=91").enter(0, 0, 10);
        y.due("tell(0)", 1);
        Talk z = Talk.of(0, 0, 10, 0, 0, 11);
        z.due("tell(0)", 10);
        z.due("of(0, 2)", 101);
        z.due("tell(1)", 10);
        z.due("of(1, 2)", 99);
    }

    static void p11DaysWithoutNewsFitBehindAFullOne() {
        Talk x = Talk.with("hush 1 d>0;news 9 d=0").enter(0, 0, 10);
        x.due("tell(0)", 10);
    }

    static void p11DayThatDoesNotFitEndsTheEvening() {
        Talk x = Talk.with("news 9 h=91;hush 1 h>91").enter(0, 0, 10);
        x.due("tell(0)", 1);
        x.due("tell(0)", 9);
        x.due("of(0, 2)", 100);
    }

    static void p11NothingFitsBehindAFirstDayThatIsMoreThanItHolds() {
        Talk x = Talk.with("news 10 h=91;hush 1 h>91").enter(0, 0, 9);
        x.due("tell(0)", 1);
        x.due("tell(0)", 9);
    }

    static void p11ThirtyDaysAtMost() {
        Talk x = Talk.with("hush 1 d<10").enter(0, 0, 29, 0, 0, 30, 0, 0, 31);
        x.due("on(0, 1, 0)", 101);
        x.due("on(1, 1, 0)", 101);
        x.due("on(2, 1, 0)", 99);
        x.due("tell(2)", 30);
        x.due("of(2, 2)", 99);
        Talk.with("pace 99").enter(1, 0, 100).due("tell(0)", 30);
    }

    static void p11DayBehindThirtyIsNotMindedThatEvening() {
        Talk x = Talk.with("pace 99;news 9 h=90").enter(2, 0, 40, 2, 0, 39);
        x.due("tell(0)", 30);
        x.due("of(0, 3)", 0);
        x.due("tell(0)", 0);
        x.due("of(0, 3)", 1);
        x.due("tell(1)", 29);
        x.due("of(1, 3)", 1);
    }

    static void p11OneThatBalksIsToldNone() {
        Talk x = Talk.of(0, 0, 10);
        x.does("balk(0, true)");
        x.due("tell(0)", 0);
        x.due("of(0, 2)", 90);
        x.due("told(0)", 101);
    }

    static void p11DayThatIsMindedIsNotTold() {
        Talk x = Talk.with("news 4 h=92").enter(2, 0, 10, 2, 2, 10);
        x.due("tell(0)", 2);
        x.due("of(0, 2)", 92);
        x.due("of(0, 3)", 1);
        x.due("tell(1)", 6);
        x.due("of(1, 3)", 0);
    }

    static void p11FirstDayMayBeMinded() {
        Talk x = Talk.with("news 99 h=90").enter(2, 9, 10);
        x.due("tell(0)", 0);
        x.due("of(0, 3)", 1);
        x.due("of(0, 2)", 90);
    }

    static void p11OneThatMindedBalksFromThenOn() {
        Talk x = Talk.with("news 9 h=91").enter(2, 0, 10);
        x.due("tell(0)", 1);
        x.due("bench()", -10);
        Edges.CHECK.due("bench()", x.bench("pace 5"), 1);
        x.due("of(0, 6)", WITHOUT);
        x.due("tell(0)", 0);
        x.due("balk(0, false)", 1);
        x.due("tell(0)", 5);
    }

    static void p11DayIsMindedThoughItWouldNotFit() {
        Talk x = Talk.with("pace 2;news 9 h=92").enter(2, 0, 10);
        x.due("tell(0)", 2);
        x.due("of(0, 3)", 1);
    }

    static void p11BetIsToldMultiplesOfVAnd2() {
        Talk x = Talk.with("news 8 h=90|h=93|h=94").enter(5, 1, 10, 2, 1, 10);
        x.due("tell(0)", 2);
        x.due("of(0, 3)", 0);
        x.due("tell(0)", 2);
        x.due("of(0, 3)", 1);
        x.due("of(0, 2)", 94);
        x.due("tell(1)", 0);
        x.due("of(1, 3)", 1);
    }

    static void p11OneUpIsToldNoneAndGoesByItself() {
        Talk x = Talk.of(0, 0, 0);
        x.due("tell(0)", 0);
        x.due("of(0, 2)", 101);
        x.due("told(2)", 1);
    }

    static void p11OneToldUpToTodayGoesByItselfThatNight() {
        Talk x = Talk.of(0, 0, 1);
        x.due("tell(0)", 1);
        x.due("of(0, 2)", 101);
        x.due("told(2)", 1);
    }

    static void p11AllThatAreUpGoByThemselvesTheOthersDoNot() {
        Talk x = Talk.of(0, 0, 30, 0, 0, 0, 0, 0, 1, 0, 0, 0, 0, 0, 100, 0, 0, 0);
        x.does("balk(5, true)");
        x.due("tell(0)", 10);
        int[] due = {80, 101, 99, 101, 0, 101};
        for (int i = 0; i < 6; i++) {
            x.due("of(" + i + ", 2)", due[i]);
        }
    }

    static void p11TodayIs1MoreAlsoIfNoneIsTold() {
        Talk x = Talk.of(0, 0, 0, 0, 0, 10);
        x.due("tell(0)", 0);
        x.due("told(0)", 101);
        x.does("balk(1, true)");
        x.due("tell(1)", 0);
        x.due("told(0)", 102);
    }

    static void p11HoldsIsThatOfTodayAheadOfTheNight() {
        Talk x = Talk.of(6, 0, 90);
        x.does("row(0, 0, 9)", "row(0, 3, 2)");
        int[] due = {14, 5, 5, 7, 14, 5};
        for (int want : due) {
            x.due("tell(0)", want);
        }
    }

    static void p11FromDay0On() {
        Talk x = Talk.of(0, 0, 100);
        x.due("tell(0)", 10);
        x.due("of(0, 2)", 10);
    }

    // ---- promise 12: pass

    static void p12NBelow0OrAbove60IsBad() {
        Talk x = Talk.house();
        x.still(new String[] {"pass(-1)", "pass(61)", "pass(" + LOWEST + ")", "pass(" + HIGHEST + ")"}, BAD);
    }

    static void p12NoNightsChangeNothing() {
        Talk x = Talk.house();
        x.still("pass(0)", 101);
    }

    static void p12SixtyNightsGo() {
        Talk x = Talk.of(0, 0, 10, 0, 0, 0);
        x.due("pass(60)", 160);
        x.due("of(0, 2)", 90);
        x.due("of(1, 2)", 160);
    }

    static void p12To9999ButNotAboveItIsState() {
        Talk x = Talk.of(0, 0, 10, 0, 0, 0).toDay(9940);
        x.still("pass(60)", STATE);
        x.due("pass(59)", 9999);
        x.still("pass(1)", STATE);
        x.still("pass(60)", STATE);
        x.due("pass(0)", 9999);
        x.due("of(0, 2)", 90);
        x.due("of(1, 2)", 9999);
    }

    static void p12BadComesAheadOfState() {
        Talk x = new Talk().toDay(9999);
        x.due("pass(61)", BAD);
        x.due("pass(-1)", BAD);
    }

    static void p12OneUpThatBalksGoesByItself() {
        Talk x = Talk.of(0, 0, 0, 0, 0, 1);
        x.does("balk(0, true)", "balk(1, true)");
        x.due("pass(3)", 103);
        x.due("of(0, 2)", 103);
        x.due("of(1, 2)", 99);
    }

    // ---- promise 13: on

    static void p13ClockBelow0OrBehindTheLastIsNone() {
        Talk x = Talk.house();
        x.still(new String[] {"on(-1, 1, 0)", "on(5, 1, 0)", "on(" + LOWEST + ", 1, 0)", "on(" + HIGHEST + ", 1, 0)"}, NONE);
    }

    static void p13WhatBelow0OrAbove2IsNone() {
        Talk x = Talk.house();
        x.still(new String[] {"on(0, 1, -1)", "on(0, 1, 3)", "on(0, 1, " + LOWEST + ")", "on(0, 1, " + HIGHEST + ")"}, NONE);
    }

    static void p13NBelow0OrAbove60IsBad() {
        Talk x = Talk.house();
        x.still(new String[] {"on(0, -1, 0)", "on(0, 61, 0)", "on(0, " + LOWEST + ", 0)", "on(0, " + HIGHEST + ", 0)"}, BAD);
    }

    static void p13NoneComesAheadOfBad() {
        Talk x = Talk.of(0, 0, 10);
        x.due("on(1, 61, 0)", NONE);
        x.due("on(0, 61, 3)", NONE);
        x.due("on(0, -1, -1)", NONE);
    }

    static void p13NoEveningsIsAsItIs() {
        Talk x = Talk.of(0, 0, 30);
        x.does("balk(0, true)");
        x.still("on(0, 0, 0)", 70);
        x.still("on(0, 0, 1)", 1);
        x.still("on(0, 0, 2)", 30);
    }

    static void p13SixtyEveningsAreTold() {
        Talk x = Talk.with("pace 2").enter(0, 0, 61, 0, 0, 62);
        x.still("on(0, 60, 0)", 160);
        x.still("on(0, 60, 2)", 0);
        x.still("on(0, 59, 0)", 39 + 118);
        x.still("on(1, 60, 0)", 38 + 120);
        x.still("on(1, 60, 2)", 2);
    }

    static void p13OneThatMindsOnItsWayBalksThen() {
        Talk x = Talk.with("news 9 h=91").enter(2, 0, 10);
        x.still("on(0, 0, 1)", 0);
        x.still("on(0, 1, 1)", 1);
        x.still("on(0, 2, 0)", 91);
        x.still("on(0, 2, 2)", 11 + 9);
    }

    static void p13TodayMayGoBeyond9999() {
        Talk x = Talk.of(0, 0, 10, 0, 0, 0).toDay(9999);
        x.still("on(1, 60, 0)", 10059);
        x.still("on(1, 60, 2)", 0);
        x.still("on(0, 60, 0)", 690);
        x.still("on(0, 60, 2)", 10059 - 690);
    }

    static void p13DaysBeyond9999HaveNewsAsOthers() {
        Talk x = Talk.with("pace 9;news 4 d<9|d=9").enter(0, 0, 2).toDay(9999);
        x.does("set(0, 9997)");
        x.still("on(0, 3, 0)", 10000);
        x.still("on(0, 4, 0)", 10001);
        x.still("on(0, 60, 0)", 10057);
        x.still("on(0, 60, 2)", 2 * 5);
    }

    static void p13DaysBeyond9999AreMinded() {
        Talk x = Talk.with("pace 1;news 9 h=1|h=2").enter(2, 0, 0, 5, 1, 0, 5, 8, 0).toDay(9999);
        x.does("set(0, 9997)", "set(1, 9996)", "set(2, 9997)");
        x.still("on(0, 3, 1)", 0);
        x.still("on(0, 4, 1)", 1);
        x.still("on(0, 60, 0)", 10001);
        x.still("on(1, 6, 0)", 10001);
        x.still("on(1, 60, 1)", 1);
        x.still("on(2, 60, 1)", 0);
    }

    static void p13RowWrapsBeyond9999() {
        Talk x = Talk.with("pace 1").enter(6, 0, 0).toDay(9999);
        x.does("set(0, 9900)", "row(0, 0, 9)", "row(0, 1, 4)");
        x.still("on(0, 1, 0)", 9901);
        x.still("on(0, 2, 0)", 9911);
        x.still("on(0, 3, 0)", 9916);
        x.still("on(0, 4, 0)", 9917);
        x.still("on(0, 6, 0)", 9928);
    }

    // ---- promise 14: soonest

    static void p14KBelowMinus1OrAbove5IsNone() {
        Talk x = Talk.house();
        x.still(new String[] {"soonest(-2)", "soonest(6)", "soonest(" + LOWEST + ")", "soonest(" + HIGHEST + ")"}, NONE);
    }

    static void p14OrderOfAllSixClocks() {
        Talk x = Talk.of(0, 0, 0, 0, 0, 0, 0, 0, 0, 0, 0, 0, 0, 0, 0, 0, 0, 0);
        for (int k = 0; k < 6; k++) {
            x.still("soonest(" + k + ")", k);
        }
        x.still("soonest(-1)", 0);
    }

    static void p14KBehindTheLastClockIsMinus5() {
        Talk x = Talk.of(0, 0, 10, 0, 0, 0, 0, 0, 0, 0, 0, 0, 0, 0, 0);
        x.due("soonest(4)", 4);
        x.still("soonest(5)", WITHOUT);
        Talk y = Talk.of(0, 0, 10);
        y.due("soonest(0)", 0);
        y.due("soonest(1)", WITHOUT);
        y.due("soonest(6)", NONE);
    }

    static void p14WithoutClocksNoEveningIsTold() {
        Talk x = new Talk();
        x.due("soonest(-1)", 0);
        x.due("soonest(0)", WITHOUT);
        x.due("soonest(5)", WITHOUT);
        x.due("soonest(6)", NONE);
    }

    static void p14TwentyEveningsToOneAtMost() {
        int[] ago = {20, 21, 22, 90};
        int[] due = {19, 20, 20, 20};
        for (int i = 0; i < 4; i++) {
            Talk.with("pace 2").enter(0, 0, ago[i]).due("soonest(-1)", due[i]);
        }
        Talk.with("pace 1").enter(0, 0, 1, 0, 0, 2, 0, 0, 3).due("soonest(-1)", 41);
    }

    static void p14OneUpIsNotTold() {
        Talk x = Talk.of(0, 0, 0, 0, 0, 10, 0, 0, 0);
        x.due("soonest(-1)", 1);
    }

    static void p14OneThatBalksIsNotTold() {
        Talk x = Talk.of(0, 0, 90, 0, 0, 10);
        x.does("balk(0, true)");
        x.due("soonest(-1)", 1);
    }

    static void p14OneThatBalksOnItsWayIsToldTillThen() {
        Talk.with("news 9 h=91").enter(2, 0, 10).due("soonest(-1)", 1);
        Talk.with("pace 1;news 9 h=91").enter(2, 0, 10).due("soonest(-1)", 1);
        Talk.with("pace 1;news 9 h=92").enter(2, 0, 10).due("soonest(-1)", 2);
    }

    static void p14OfSeveralTheFirstAsARowOfNumbers() {
        Talk x = Talk.of(0, 0, 5, 0, 0, 5, 0, 0, 5, 0, 0, 5);
        x.due("soonest(-1)", 4);
        for (int k = 0; k < 4; k++) {
            x.due("soonest(" + k + ")", k);
        }
        Talk y = Talk.of(0, 0, 30, 0, 0, 10, 0, 0, 9);
        y.due("soonest(-1)", 6);
        y.due("soonest(0)", 1);
        y.due("soonest(1)", 2);
        y.due("soonest(2)", 0);
    }

    static void p14AskedAnewItIsOfHowAllIsNow() {
        Talk x = Talk.of(0, 0, 5, 0, 0, 10);
        x.due("soonest(-1)", 2);
        x.does("set(0, 10)");
        x.due("most(1, -1)", 1);
        x.due("soonest(-1)", 11);
        x.due("soonest(0)", 1);
        x.does("set(0, 100)", "set(1, 100)");
        x.due("soonest(-1)", 0);
        x.due("soonest(0)", 0);
    }

    static void p14GoesOnBeyond9999() {
        Talk x = Talk.of(0, 0, 0, 0, 0, 0).toDay(9999);
        x.does("set(0, 9969)");
        x.still("soonest(-1)", 4);
        x.does("set(0, 9979)", "set(1, 9989)");
        x.still("soonest(-1)", 4);
        x.still("soonest(0)", 1);
    }

    // ---- promise 15: most

    static void p15KBelowMinus1OrAbove4IsNone() {
        Talk x = Talk.house();
        x.still(new String[] {"most(2, -2)", "most(2, 5)", "most(2, " + LOWEST + ")", "most(2, " + HIGHEST + ")"}, NONE);
    }

    static void p15NBelow1OrAbove5IsBad() {
        Talk x = Talk.house();
        x.still(new String[] {"most(0, 0)", "most(6, 0)", "most(-1, -1)", "most(" + LOWEST + ", 0)", "most(" + HIGHEST + ", 0)"}, BAD);
    }

    static void p15NoneComesAheadOfBad() {
        Talk x = Talk.of(0, 0, 10);
        x.due("most(0, 5)", NONE);
        x.due("most(6, -2)", NONE);
    }

    static void p15BadComesAheadOfMinus5() {
        Talk x = new Talk();
        x.due("most(0, 0)", BAD);
        x.due("most(6, -1)", BAD);
        x.due("most(1, 5)", NONE);
    }

    static void p15OneEveningAndFive() {
        Talk x = Talk.of(0, 0, 15, 0, 0, 5, 0, 0, 5, 0, 0, 5);
        x.still("most(1, -1)", 1);
        x.still("most(1, 0)", 1);
        x.still("most(5, -1)", 4);
        int[] due = {0, 0, 1, 2, 3};
        for (int k = 0; k < 5; k++) {
            x.still("most(5, " + k + ")", due[k]);
        }
    }

    static void p15KBehindTheRowIsMinus5() {
        Talk x = Talk.of(0, 0, 5);
        for (int n = 1; n <= 4; n++) {
            x.due("most(" + n + ", " + (n - 1) + ")", 0);
            x.due("most(" + n + ", " + n + ")", WITHOUT);
        }
        x.due("most(1, 4)", WITHOUT);
    }

    static void p15WithoutClocksIsMinus5() {
        Talk x = new Talk();
        for (int k = -1; k <= 4; k++) {
            x.due("most(5, " + k + ")", WITHOUT);
        }
    }

    static void p15WhereNoneComesUpTheFirstRowIsKept() {
        Talk x = Talk.of(0, 0, 90, 0, 0, 90);
        x.due("most(3, -1)", 0);
        x.due("most(3, 0)", 0);
        x.due("most(3, 2)", 0);
    }

    static void p15OfSeveralTheFirstAsARowOfNumbers() {
        Talk x = Talk.of(0, 0, 90, 0, 0, 5, 0, 0, 5);
        x.due("most(2, -1)", 2);
        x.due("most(2, 0)", 1);
        x.due("most(2, 1)", 2);
        x.due("most(1, 0)", 1);
        x.due("most(3, 0)", 0);
        x.due("most(3, 1)", 1);
        x.due("most(3, 2)", 2);
    }

    static void p15LastOfSixMayBeTheOne() {
        Talk x = Talk.of(0, 0, 90, 0, 0, 90, 0, 0, 90, 0, 0, 90, 0, 0, 90, 0, 0, 5);
        x.due("most(1, 0)", 5);
        x.due("most(5, -1)", 1);
        x.due("most(5, 3)", 0);
        x.due("most(5, 4)", 5);
    }

    static void p15AskedAnewItIsOfHowAllIsNow() {
        Talk x = Talk.of(0, 0, 5, 0, 0, 5);
        x.due("most(2, -1)", 2);
        x.due("most(2, 1)", 1);
        x.does("set(0, 1)", "set(1, 1)");
        x.due("soonest(-1)", 24);
        x.due("most(2, -1)", 0);
        x.due("most(2, 1)", 0);
    }

    static void p15GoesOnBeyond9999() {
        Talk x = Talk.of(0, 0, 0, 0, 0, 0).toDay(9999);
        x.does("set(0, 9990)", "set(1, 9988)");
        x.still("most(2, -1)", 1);
        x.still("most(5, -1)", 2);
        x.still("most(5, 4)", 1);
    }

    // ---- promise 16: next

    static void p16WithoutClocksIsMinus5() {
        new Talk().due("next()", WITHOUT);
    }

    static void p16OneClockIsTheNextThoughItIsUpOrBalks() {
        Talk x = Talk.of(0, 0, 0);
        x.still("next()", 0);
        x.does("set(0, 9)", "balk(0, true)");
        x.still("next()", 0);
    }

    static void p16OfSeveralTheFirst() {
        Talk.of(0, 0, 30, 0, 0, 30, 0, 0, 30).due("next()", 0);
        Talk.of(0, 0, 5, 0, 0, 30, 0, 0, 30).due("next()", 1);
        Talk.of(0, 0, 0, 0, 0, 0).due("next()", 0);
    }

    static void p16NightCountsToo() {
        Talk x = Talk.of(0, 0, 10, 0, 0, 11);
        x.due("next()", 0);
        Talk y = Talk.of(0, 0, 11, 0, 0, 10);
        y.due("next()", 1);
    }

    static void p16LeastMayBeMuchMoreThanIsLeftNow() {
        Talk x = Talk.with("news 99 c<9;".repeat(7) + "news 99 c<9").enter(0, 0, 9, 0, 0, 9, 0, 0, 9, 0, 0, 9, 0, 0, 9, 0, 0, 9);
        x.does("balk(0, true)", "balk(1, true)", "balk(2, true)", "balk(3, true)", "balk(4, true)");
        x.due("next()", 5);
        x.does("balk(5, true)");
        x.due("next()", 0);
        x.does("balk(2, false)");
        x.due("next()", 2);
    }

    static void p16GoesOnBeyond9999() {
        Talk x = Talk.with("news 30 h=99").enter(0, 0, 0, 0, 0, 0).toDay(9999);
        x.does("set(0, 9990)", "set(1, 9989)");
        x.still("next()", 1);
    }

    static void p16IsAskedAndChangesNothing() {
        Talk.house().still("next()", 3);
    }

    // ---- promise 17: see

    static void p17Minus1EmptiesWhateverTheOthersAre() {
        for (String call : new String[] {"see(-1, 0, 0)", "see(-1, -1, 99)", "see(-1, 1000, -1)", "see(-1, " + LOWEST + ", " + HIGHEST + ")"}) {
            Talk x = Talk.house();
            x.due("count(2)", 3);
            x.due(call, 0);
            x.due("count(2)", 0);
            x.due("since(0, 0)", 100);
            x.still(call, 0);
        }
    }

    static void p17ClockBelowMinus1OrBehindTheLastIsNone() {
        Talk x = Talk.house();
        x.still(new String[] {"see(-2, 0, 0)", "see(5, 0, 0)", "see(6, 0, 0)", "see(" + LOWEST + ", 0, 0)", "see(" + HIGHEST + ", 0, 0)"}, NONE);
    }

    static void p17MoreBelow0OrAbove999IsBad() {
        Talk x = Talk.house();
        x.still(new String[] {"see(0, -1, 1)", "see(0, 1000, 1)", "see(0, " + LOWEST + ", 1)", "see(0, " + HIGHEST + ", 1)"}, BAD);
    }

    static void p17NBelow0OrAbove20IsBad() {
        Talk x = Talk.house();
        x.still(new String[] {"see(0, 1, -1)", "see(0, 1, 21)", "see(0, 1, " + LOWEST + ")", "see(0, 1, " + HIGHEST + ")"}, BAD);
    }

    static void p17More0And999N0And20AreTaken() {
        Talk x = Talk.of(0, 0, 10);
        x.due("see(0, 0, 0)", 1);
        x.due("see(0, 999, 20)", 2);
        x.due("see(0, 999, 0)", 3);
        x.due("see(0, 0, 20)", 4);
    }

    static void p17FifthIsTakenTheSixthIsFull() {
        Talk x = Talk.house();
        x.due("see(0, 3, 1)", 4);
        x.due("see(1, 3, 1)", 5);
        x.still("see(0, 3, 1)", FULL);
        x.due("count(2)", 5);
        x.due("see(-1, 0, 0)", 0);
        x.due("see(0, 3, 1)", 1);
    }

    static void p17NoneComesAheadOfBadAndThatAheadOfFull() {
        Talk x = Talk.of(0, 0, 10);
        x.due("see(1, 1000, 21)", NONE);
        for (int i = 1; i <= 5; i++) {
            x.due("see(0, 0, 0)", i);
        }
        x.due("see(1, 0, 0)", NONE);
        x.due("see(0, 1000, 0)", BAD);
        x.due("see(0, 0, 21)", BAD);
    }

    // ---- promise 18: since

    static void p18ClockBelow0OrBehindTheLastIsNone() {
        Talk x = Talk.house();
        x.still(new String[] {"since(-1, 0)", "since(5, 0)", "since(" + LOWEST + ", 0)", "since(" + HIGHEST + ", 0)"}, NONE);
    }

    static void p18WhatBelow0OrAbove1IsNone() {
        Talk x = Talk.house();
        x.still(new String[] {"since(0, -1)", "since(0, 2)", "since(0, " + LOWEST + ")", "since(0, " + HIGHEST + ")"}, NONE);
    }

    static void p18WithNothingSeenAll100AreSo() {
        Talk x = Talk.of(0, 0, 10);
        x.still("since(0, 0)", 100);
        x.still("since(0, 1)", 0);
    }

    static void p18LeastMayBe0() {
        Talk x = Talk.of(0, 0, 10);
        x.does("see(0, 1, 1)");
        x.still("since(0, 0)", 1);
        x.still("since(0, 1)", 0);
    }

    static void p18XIs99AtMost() {
        Talk x = Talk.with("news 50 h<2").enter(0, 0, 100);
        // By 0, and by 99: day 1 is all for an evening; by 100 day 0 would be so too.
        x.does("see(0, 1, 1)");
        x.still("since(0, 0)", 2);
        x.still("since(0, 1)", 0);
        Talk y = Talk.with("news 50 h=1;hush 1 h>1").enter(0, 0, 0);
        // By 29, and by 99: one day, then thirty.
        y.does("see(0, 31, 2)");
        y.still("since(0, 0)", 2);
        y.still("since(0, 1)", 29);
    }

    static void p18NoneFittingIsMinus5() {
        Talk x = Talk.of(0, 0, 10);
        x.does("see(0, 999, 20)");
        x.still("since(0, 0)", 0);
        x.still("since(0, 1)", WITHOUT);
    }

    static void p18SeenOfNoEvenings() {
        Talk x = Talk.of(0, 0, 10);
        x.does("see(0, 0, 0)");
        x.due("since(0, 0)", 100);
        x.does("see(0, 1, 0)");
        x.due("since(0, 0)", 0);
    }

    static void p18SeenOfOthersIsNotLookedAt() {
        Talk x = Talk.of(0, 0, 10, 0, 0, 10);
        x.does("see(1, 999, 20)");
        x.due("since(0, 0)", 100);
        x.due("since(1, 0)", 0);
    }

    static void p18GoesOnBeyond9999() {
        Talk x = Talk.of(0, 0, 10).toDay(9999);
        x.does("see(0, 11, 1)", "see(0, 30, 20)");
        x.still("since(0, 0)", 1);
        x.still("since(0, 1)", 10);
    }

    // ---- promise 19: can

    static void p19ClockBelow0OrBehindTheLastIsNone() {
        Talk x = Talk.house();
        x.still(new String[] {"can(-1, 0)", "can(5, 0)", "can(" + LOWEST + ", 0)", "can(" + HIGHEST + ", 0)"}, NONE);
    }

    static void p19WhatBelow0OrAbove1IsNone() {
        Talk x = Talk.house();
        x.still(new String[] {"can(0, -1)", "can(0, 2)", "can(0, " + LOWEST + ")", "can(0, " + HIGHEST + ")"}, NONE);
    }

    static void p19WithNothingSeenAll10AreSo() {
        Talk x = Talk.of(4, 5, 90);
        x.still("can(0, 0)", 10);
        x.still("can(0, 1)", 0);
    }

    static void p19VIs0AtLeastAnd9AtMost() {
        Talk x = Talk.of(4, 5, 90);
        int[] more = {19, 20, 29, 30};
        int[] count = {0, 1, 1, 0};
        int[] least = {WITHOUT, 0, 9, WITHOUT};
        for (int i = 0; i < 4; i++) {
            x.does("see(-1, 0, 0)", "see(0, " + more[i] + ", 1)");
            x.still("can(0, 0)", count[i]);
            x.still("can(0, 1)", least[i]);
        }
    }

    static void p19VOfATestIsTriedToo() {
        Talk x = Talk.with("news 9 v=0|v=9").enter(0, 5, 90);
        x.does("see(0, 1, 1)");
        x.still("can(0, 0)", 2);
        x.still("can(0, 1)", 0);
        x.due("news(0, 3)", 1);
        x.due("of(0, 1)", 5);
    }

    static void p19SeenOfOthersIsNotLookedAt() {
        Talk x = Talk.of(0, 0, 10, 0, 0, 10);
        x.does("see(1, 999, 20)");
        x.due("can(0, 0)", 10);
        x.due("can(1, 0)", 0);
    }

    static void p19GoesOnBeyond9999() {
        Talk x = Talk.of(4, 5, 0).toDay(9999);
        x.does("set(0, 9000)", "see(0, 60, 3)", "see(0, 20, 1)");
        x.still("can(0, 0)", 1);
        x.still("can(0, 1)", 0);
    }

    // ---- promise 20: odds

    static void p20NBelow0OrAbove60IsNo() {
        Talk x = Talk.house();
        x.still(new String[] {"odds(-1, 0)", "odds(61, 0)", "odds(-1, 1)", "odds(61, 1)", "odds(" + LOWEST + ", 0)",
            "odds(" + HIGHEST + ", 0)"}, NO);
    }

    static void p20PartBelow0OrAbove1IsNo() {
        Talk x = Talk.house();
        x.still(new String[] {"odds(1, -1)", "odds(1, 2)", "odds(1, " + LOWEST + ")", "odds(1, " + HIGHEST + ")"}, NO);
    }

    static void p20WithoutClocksIsNo() {
        Talk x = new Talk();
        x.due("odds(0, 0)", NO);
        x.due("odds(0, 1)", NO);
        x.due("odds(60, 1)", NO);
    }

    static void p20NoEveningsAndSixty() {
        Talk x = Talk.with("pace 2").enter(0, 0, 61, 0, 0, 0);
        int[][] due = {{0, 1, 2}, {59, 1, 2}, {60, 1, 1}};
        for (int[] odds : due) {
            x.still("odds(" + odds[0] + ", 0)", odds[1]);
            x.still("odds(" + odds[0] + ", 1)", odds[2]);
        }
    }

    static void p20NoneUpIs0By1() {
        Talk x = Talk.of(0, 0, 90, 0, 0, 90, 0, 0, 90);
        x.due("odds(1, 0)", 0);
        x.due("odds(1, 1)", 1);
    }

    static void p20AllUpIs1By1() {
        Talk x = Talk.of(0, 0, 0, 0, 0, 10, 0, 0, 3);
        x.due("odds(1, 0)", 1);
        x.due("odds(1, 1)", 1);
    }

    static void p20LowestTerms() {
        Talk x = Talk.of(0, 0, 0, 0, 0, 0, 0, 0, 0, 0, 0, 0, 0, 0, 5, 0, 0, 5);
        x.due("odds(0, 0)", 2);
        x.due("odds(0, 1)", 3);
        x.does("set(3, 1)");
        x.due("odds(0, 0)", 1);
        x.due("odds(0, 1)", 2);
        x.does("set(4, 100)", "set(5, 100)");
        x.due("odds(0, 0)", 5);
        x.due("odds(0, 1)", 6);
    }

    static void p20GoesOnBeyond9999() {
        Talk x = Talk.of(0, 0, 0, 0, 0, 0).toDay(9999);
        x.does("set(0, 9969)");
        x.still("odds(3, 1)", 2);
        x.still("odds(4, 1)", 1);
    }

    // ---- promise 21: mean

    static void p21PartBelow0OrAbove1IsNo() {
        Talk x = Talk.house();
        x.still(new String[] {"mean(-1)", "mean(2)", "mean(" + LOWEST + ")", "mean(" + HIGHEST + ")"}, NO);
    }

    static void p21WithoutClocksIsNo() {
        Talk x = new Talk();
        x.due("mean(0)", NO);
        x.due("mean(1)", NO);
    }

    static void p21NothingLeftIs0By1() {
        Talk x = Talk.of(0, 0, 0, 0, 0, 0, 0, 0, 0);
        x.due("mean(0)", 0);
        x.due("mean(1)", 1);
    }

    static void p21LowestTerms() {
        Talk x = Talk.of(0, 0, 4, 0, 0, 0, 0, 0, 0, 0, 0, 0, 0, 0, 0, 0, 0, 0);
        x.still("mean(0)", 2);
        x.still("mean(1)", 3);
        x.does("set(1, 98)");
        x.due("mean(0)", 1);
        x.due("mean(1)", 1);
        x.does("set(1, 97)");
        x.due("mean(0)", 7);
        x.due("mean(1)", 6);
    }

    static void p21MostThatMayBeLeft() {
        Talk x = Talk.with("news 99 d<9;news 99 d<9;news 99 d<9;news 99 d<9;news 99 d<9;news 99 d<9;news 99 d<9;pace 99");
        x.enter(0, 0, 100, 0, 0, 100, 0, 0, 100, 0, 0, 100, 0, 0, 100, 0, 0, 100).toDay(9999);
        x.due("mean(0)", 694 * 9000 + 999);
        x.due("mean(1)", 1);
    }

    // ---- promise 22: month

    static void p22Minus1Empties() {
        Talk x = Talk.house();
        x.due("count(3)", 3);
        x.due("month(-1)", 0);
        x.due("count(3)", 0);
        x.due("ends(0)", 1);
        x.still("month(-1)", 0);
    }

    static void p22ClockBelowMinus1OrAbove6OrNotThereIsNone() {
        Talk x = Talk.house();
        x.still(new String[] {"month(-2)", "month(5)", "month(7)", "month(" + LOWEST + ")", "month(" + HIGHEST + ")"}, NONE);
    }

    static void p22NobodyIsTakenWithoutClocks() {
        Talk x = new Talk();
        x.due("month(0)", NONE);
        x.due("month(6)", 1);
    }

    static void p22LastClockIsTaken() {
        Talk x = Talk.of(0, 0, 0, 0, 0, 0, 0, 0, 0, 0, 0, 0, 0, 0, 0);
        x.due("month(4)", 1);
        x.due("month(5)", NONE);
        x.does("clock(0, 0, 0)");
        x.due("month(5)", 2);
        x.due("month(7)", NONE);
    }

    static void p22TenthIsTakenTheNextIsFull() {
        Talk x = Talk.house();
        for (int i = 4; i <= 10; i++) {
            x.due("month(" + (i == 10 ? 6 : 1) + ")", i);
        }
        x.still("month(0)", FULL);
        x.still("month(6)", FULL);
        x.due("count(3)", 10);
        x.due("month(-1)", 0);
        x.due("month(0)", 1);
    }

    static void p22NoneComesAheadOfFull() {
        Talk x = new Talk();
        for (int i = 1; i <= 10; i++) {
            x.due("month(6)", i);
        }
        x.due("month(0)", NONE);
        x.due("month(7)", NONE);
    }

    // ---- promise 23: ends

    static void p23WhatBelow0OrAbove1IsNone() {
        Talk x = Talk.house();
        x.still(new String[] {"ends(-1)", "ends(2)", "ends(" + LOWEST + ")", "ends(" + HIGHEST + ")"}, NONE);
    }

    static void p23EmptyMonthEndsAsAllIsNow() {
        Talk x = Talk.of(0, 0, 0, 0, 0, 7);
        x.still("ends(0)", 1);
        x.still("ends(1)", 7);
    }

    static void p23WithoutClocksNoneAreUpAndNothingIsLeft() {
        Talk x = new Talk();
        x.does("month(6)");
        x.due("ends(0)", 0);
        x.due("ends(1)", 0);
    }

    static void p23TenRowsAreAllGone() {
        Talk x = Talk.of(0, 0, 99);
        for (int i = 1; i <= 9; i++) {
            x.due("month(6)", i);
        }
        x.due("ends(1)", 108);
        x.due("month(0)", 10);
        x.still("ends(1)", 99);
        x.still("ends(0)", 0);
    }

    static void p23GoesOnBeyond9999() {
        Talk x = Talk.of(0, 0, 0, 0, 0, 0).toDay(9999);
        x.does("set(0, 9991)", "month(6)", "month(6)", "month(0)");
        x.still("ends(0)", 2);
        x.does("set(0, 9990)");
        x.still("ends(1)", 2);
    }

    // ---- promise 24: book

    static void p24Minus1EmptiesWhateverTheOtherIs() {
        for (String call : new String[] {"book(-1, 0)", "book(-1, -1)", "book(-1, 10000)", "book(-1, " + LOWEST + ")"}) {
            Talk x = Talk.house();
            x.due("count(4)", 3);
            x.due(call, 0);
            x.due("count(4)", 0);
            x.due("looked()", WITHOUT);
            x.still(call, 0);
        }
    }

    static void p24ClockBelowMinus1OrBehindTheLastIsNone() {
        Talk x = Talk.house();
        x.still(new String[] {"book(-2, 0)", "book(5, 0)", "book(6, 0)", "book(" + LOWEST + ", 0)", "book(" + HIGHEST + ", 0)"}, NONE);
    }

    static void p24HeardBelow0OrAbove9999IsBad() {
        Talk x = Talk.house();
        x.still(new String[] {"book(0, -1)", "book(0, 10000)", "book(0, " + LOWEST + ")", "book(0, " + HIGHEST + ")"}, BAD);
    }

    static void p24Heard0And9999AreTaken() {
        Talk x = Talk.of(0, 0, 100, 0, 0, 0).toDay(9999);
        x.due("book(0, 0)", 1);
        x.due("book(1, 9999)", 2);
        x.due("looked()", WITHOUT);
        x.due("book(0, 9999)", 3);
        x.due("looked()", 2);
    }

    static void p24EighthIsTakenTheNinthIsFull() {
        Talk x = Talk.house();
        for (int i = 4; i <= 8; i++) {
            x.due("book(0, 70)", i);
        }
        x.still("book(0, 70)", FULL);
        x.due("count(4)", 8);
        x.due("book(-1, 0)", 0);
        x.due("book(0, 70)", 1);
    }

    static void p24NoneComesAheadOfBadAndThatAheadOfFull() {
        Talk x = Talk.of(0, 0, 10);
        x.due("book(1, 10000)", NONE);
        for (int i = 1; i <= 8; i++) {
            x.due("book(0, 0)", i);
        }
        x.due("book(1, 0)", NONE);
        x.due("book(0, 10000)", BAD);
        x.due("book(0, -1)", BAD);
    }

    // ---- promise 25: looked

    static void p25EmptyBookIsMinus5() {
        new Talk().due("looked()", WITHOUT);
        Talk.of(0, 0, 10).still("looked()", WITHOUT);
    }

    static void p25FirstRowAndLastRow() {
        Talk x = Talk.of(0, 0, 10, 0, 0, 20);
        for (int i = 1; i <= 7; i++) {
            x.due("book(" + i % 2 + ", " + (i % 2 == 0 ? 90 : 80) + ")", i);
        }
        x.still("looked()", WITHOUT);
        x.due("book(0, 91)", 8);
        x.still("looked()", 7);
        x.does("set(0, 89)");
        x.due("looked()", 1);
        x.does("set(1, 81)");
        x.due("looked()", 0);
    }

    static void p25OneMoreOrOneLessIsOtherwise() {
        Talk x = Talk.of(0, 0, 10);
        x.does("book(0, 90)");
        x.due("looked()", WITHOUT);
        x.does("set(0, 91)");
        x.due("looked()", 0);
        x.does("set(0, 89)");
        x.due("looked()", 0);
    }

    public static void main(String[] args) throws ReflectiveOperationException {
        Edges.run(EdgesOfEveningsTest.class, 11, 25);
    }
}
