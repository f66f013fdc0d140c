/** Promises 11 to 25 by hand: what is due was worked out from the document. */
public final class EveningsTest {
    private static final Check CHECK = new Check();
    private static final long NO = Long.MIN_VALUE;

    private static void due(String call, long got, long want) {
        CHECK.due(call, got, want);
    }

    private static void tell() {
        CHECK.promise(11);
        ClocksTold x = CHECK.of(0, 0, 30, 1, 0, 30, 3, 0, 30, 4, 2, 30, 0, 0, 0);
        int[] days = {10, 20, 5, 22};
        for (int i = 0; i < days.length; i++) {
            due("tell(" + i + ")", x.tell(i), days[i]);
            due("of(" + i + ", 2)", x.of(i, 2), 70 + days[i]);
            due("told(0)", x.told(0), 101 + i);
        }
        due("of(4, 2) of one that was UP", x.of(4, 2), 104);
        due("tell(4) of one UP", x.tell(4), 0);
        due("of(4, 2)", x.of(4, 2), 105);
        due("tell(1) of the rest", x.tell(1), 15);
        due("of(1, 2) of one that is UP now", x.of(1, 2), 106);
        due("tell(5)", x.tell(5), -1);
        due("tell(-1)", x.tell(-1), -1);
        due("told(0)", x.told(0), 106);
    }

    private static void tellMuch() {
        ClocksTold x = CHECK.enter(CHECK.with("news 20 d=0;news 9 d=5;hush 1 t=1"), 0, 0, 10, 0, 0, 90);
        due("tell(0) of a first day beyond what it HOLDS", x.tell(0), 1);
        due("tell(0) of four days and one more that is too much", x.tell(0), 4);
        due("tell(0) of a first day of just what it HOLDS", x.tell(0), 1);
        due("of(0, 2)", x.of(0, 2), 96);
        due("tell(1): day 10 has 20, no other fits but those without NEWS", x.tell(1), 1);
        due("tell(1): 11 to 14 have none, 15 has 9, 16 to 19 none", x.tell(1), 9);
        due("of(1, 2)", x.of(1, 2), 20);
    }

    private static void tellThirty() {
        ClocksTold x = CHECK.enter(CHECK.with("hush 1 d<10"), 0, 0, 40, 0, 0, 30, 0, 0, 29);
        due("tell(0)", x.tell(0), 30);
        due("tell(1)", x.tell(1), 30);
        due("tell(2)", x.tell(2), 30);
        due("tell(2): days 101 and 102", x.tell(2), 2);
        due("of(2, 2)", x.of(2, 2), 104);
    }

    private static void tellOneThatMinds() {
        ClocksTold x = CHECK.enter(CHECK.with("news 5 d=3;pace 5"), 2, 2, 20, 5, 2, 20, 2, 3, 20, 2, 2, 18, 5, 1, 7);
        due("tell(0)", x.tell(0), 3);
        due("of(0, 3)", x.of(0, 3), 1);
        due("of(0, 2)", x.of(0, 2), 83);
        due("tell(0) that BALKS", x.tell(0), 0);
        due("told(0)", x.told(0), 102);
        x.balk(0, false);
        due("tell(0) at the day it MINDS", x.tell(0), 0);
        due("of(0, 3)", x.of(0, 3), 1);
        due("tell(1) of a BET", x.tell(1), 3);
        due("of(1, 3)", x.of(1, 3), 1);
        due("tell(2) that does not mind", x.tell(2), 3);
        due("of(2, 3)", x.of(2, 3), 0);
        due("tell(3): 82 is told, and 83 is minded, fit or not", x.tell(3), 1);
        due("of(3, 3)", x.of(3, 3), 1);
        due("tell(4): 93 is a multiple of 3", x.tell(4), 1);
        due("of(4, 3)", x.of(4, 3), 0);
    }

    private static void tellToldByDay() {
        ClocksTold x = CHECK.of(6, 0, 90);
        x.row(0, 1, 9);
        x.row(0, 2, 2);
        int[] due = {5, 14, 7, 5, 5, 14};
        for (int days : due) {
            due("tell(0) at " + x.told(0), x.tell(0), days);
        }
    }

    private static void tellLast() {
        ClocksTold x = CHECK.of(0, 0, 0);
        CHECK.toDay(x, 9998);
        due("tell(0) at 9998", x.tell(0), 0);
        due("tell(0) at 9999", x.tell(0), -3);
        due("tell(1) at 9999", x.tell(1), -1);
        due("told(0)", x.told(0), 9999);
        due("of(0, 2)", x.of(0, 2), 9999);
        due("on(0, 3, 0) goes on beyond", x.on(0, 3, 0), 10002);
        due("news(0, 9999)", x.news(0, 9999), 1);
    }

    private static void pass() {
        CHECK.promise(12);
        ClocksTold x = CHECK.of(0, 0, 10, 0, 0, 0);
        x.balk(1, true);
        due("pass(0)", x.pass(0), 100);
        due("pass(60)", x.pass(60), 160);
        due("pass(61)", x.pass(61), -2);
        due("pass(-1)", x.pass(-1), -2);
        due("of(0, 2)", x.of(0, 2), 90);
        due("of(1, 2) goes by itself", x.of(1, 2), 160);
        CHECK.toDay(x, 9940);
        due("pass(60) to 10000", x.pass(60), -3);
        due("pass(61)", x.pass(61), -2);
        due("told(0)", x.told(0), 9940);
        due("pass(59)", x.pass(59), 9999);
        due("pass(1)", x.pass(1), -3);
        due("pass(0)", x.pass(0), 9999);
    }

    private static void on() {
        CHECK.promise(13);
        ClocksTold x = CHECK.enter(CHECK.with("news 5 d=3"), 0, 0, 30, 2, 2, 20);
        due("on(0, 0, 0)", x.on(0, 0, 0), 70);
        due("on(0, 0, 2)", x.on(0, 0, 2), 45);
        due("on(0, 1, 0)", x.on(0, 1, 0), 75);
        due("on(0, 1, 2)", x.on(0, 1, 2), 26 + 10);
        due("on(0, 60, 0)", x.on(0, 60, 0), 160);
        due("on(0, 60, 2)", x.on(0, 60, 2), 0);
        due("on(1, 0, 1)", x.on(1, 0, 1), 0);
        due("on(1, 1, 1)", x.on(1, 1, 1), 1);
        due("on(1, 2, 0)", x.on(1, 2, 0), 83);
        due("on(1, 2, 2)", x.on(1, 2, 2), 19 + 10);
        due("on(0, -1, 0)", x.on(0, -1, 0), -2);
        due("on(0, 61, 0)", x.on(0, 61, 0), -2);
        due("on(0, 61, 3)", x.on(0, 61, 3), -1);
        due("on(0, 1, -1)", x.on(0, 1, -1), -1);
        due("on(2, 1, 0)", x.on(2, 1, 0), -1);
        due("told(0) is as it was", x.told(0), 100);
        due("of(0, 2) is as it was", x.of(0, 2), 70);
        due("of(1, 3) is as it was", x.of(1, 3), 0);
    }

    private static void soonest() {
        CHECK.promise(14);
        ClocksTold x = CHECK.of(0, 0, 30, 0, 0, 10);
        due("soonest(-1)", x.soonest(-1), 5);
        due("soonest(0)", x.soonest(0), 1);
        due("soonest(1)", x.soonest(1), 0);
        due("soonest(2)", x.soonest(2), -5);
        due("soonest(5)", x.soonest(5), -5);
        due("soonest(6)", x.soonest(6), -1);
        due("soonest(-2)", x.soonest(-2), -1);
        due("told(0) is as it was", x.told(0), 100);
        x.balk(0, true);
        due("soonest(-1) with one that BALKS", x.soonest(-1), 1);
        due("soonest(0)", x.soonest(0), 0);
        x.set(1, 100);
        due("soonest(-1) with one UP", x.soonest(-1), 0);
        ClocksTold y = CHECK.enter(CHECK.with("pace 1"), 3, 0, 50, 3, 0, 60, 3, 0, 1);
        due("soonest(-1): 20 evenings at most", y.soonest(-1), 41);
        due("soonest(0)", y.soonest(0), 2);
        due("soonest(1)", y.soonest(1), 0);
        due("soonest(2)", y.soonest(2), 1);
        ClocksTold z = CHECK.enter(CHECK.with("news 5 d=3"), 2, 2, 20);
        due("soonest(-1) of one that BALKS on its way", z.soonest(-1), 1);
        due("soonest(-1) without clocks", new ClocksTold().soonest(-1), 0);
        due("soonest(0) without clocks", new ClocksTold().soonest(0), -5);
    }

    private static void most() {
        CHECK.promise(15);
        ClocksTold x = CHECK.of(0, 0, 15, 0, 0, 5);
        int[][] due = {{1, 1, 1}, {2, 1, 0, 0}, {3, 2, 0, 0, 1}, {4, 2, 0, 0, 0, 1}, {5, 2, 0, 0, 0, 0, 1}};
        for (int[] row : due) {
            for (int k = -1; k < row[0]; k++) {
                due("most(" + row[0] + ", " + k + ")", x.most(row[0], k), row[k + 2]);
            }
        }
        due("most(1, 1)", x.most(1, 1), -5);
        due("most(4, 4)", x.most(4, 4), -5);
        due("most(0, 0)", x.most(0, 0), -2);
        due("most(6, 0)", x.most(6, 0), -2);
        due("most(6, 5)", x.most(6, 5), -1);
        due("most(1, -2)", x.most(1, -2), -1);
        due("told(0) is as it was", x.told(0), 100);
        due("told(2) is as it was", x.told(2), 0);
        ClocksTold none = new ClocksTold();
        due("most(1, -1) without clocks", none.most(1, -1), -5);
        due("most(1, 0) without clocks", none.most(1, 0), -5);
        due("most(0, 0) without clocks", none.most(0, 0), -2);
    }

    private static void next() {
        CHECK.promise(16);
        ClocksTold x = CHECK.of(0, 0, 30, 1, 0, 30, 1, 0, 30);
        due("next()", x.next(), 1);
        x.balk(1, true);
        due("next() with one that BALKS", x.next(), 2);
        x.balk(2, true);
        due("next() with two that BALK", x.next(), 0);
        x.balk(0, true);
        due("next() with all alike", x.next(), 0);
        due("told(0) is as it was", x.told(0), 100);
        due("next() without clocks", new ClocksTold().next(), -5);
        ClocksTold y = CHECK.enter(CHECK.with("news 30 c=1"), 0, 0, 30, 0, 0, 30);
        due("next() by LEFT, not by days", y.next(), 1);
    }

    private static void see() {
        CHECK.promise(17);
        ClocksTold x = CHECK.of(0, 0, 30);
        due("see(1, -1, -1)", x.see(1, -1, -1), -1);
        due("see(-2, 0, 0)", x.see(-2, 0, 0), -1);
        due("see(0, -1, 0)", x.see(0, -1, 0), -2);
        due("see(0, 1000, 0)", x.see(0, 1000, 0), -2);
        due("see(0, 0, -1)", x.see(0, 0, -1), -2);
        due("see(0, 0, 21)", x.see(0, 0, 21), -2);
        due("see(0, 999, 20)", x.see(0, 999, 20), 1);
        for (int i = 2; i <= 5; i++) {
            due("see(0, 0, 0)", x.see(0, 0, 0), i);
        }
        due("see(0, 0, 0) of a sixth", x.see(0, 0, 0), -4);
        due("see(0, 1000, 0) of a sixth", x.see(0, 1000, 0), -2);
        due("count(2)", x.count(2), 5);
        due("see(-1, 1000, 99)", x.see(-1, 1000, 99), 0);
        due("count(2)", x.count(2), 0);
    }

    private static void since() {
        CHECK.promise(18);
        ClocksTold x = CHECK.of(0, 0, 30, 0, 0, 0);
        due("since(0, 0) with none SEEN", x.since(0, 0), 100);
        due("since(0, 1) with none SEEN", x.since(0, 1), 0);
        x.see(0, 11, 1);
        due("since(0, 0)", x.since(0, 0), 1);
        due("since(0, 1)", x.since(0, 1), 10);
        due("since(1, 0) of another", x.since(1, 0), 100);
        x.see(-1, 0, 0);
        x.see(0, 10, 1);
        due("since(0, 0): 9, and 11 to 99", x.since(0, 0), 90);
        due("since(0, 1)", x.since(0, 1), 9);
        x.see(0, 11, 1);
        due("since(0, 0) of both", x.since(0, 0), 0);
        due("since(0, 1) of both", x.since(0, 1), -5);
        due("since(0, 2)", x.since(0, 2), -1);
        due("since(0, -1)", x.since(0, -1), -1);
        due("since(2, 0)", x.since(2, 0), -1);
        due("of(0, 2) is as it was", x.of(0, 2), 70);
        x.see(-1, 0, 0);
        x.see(0, 0, 3);
        x.balk(0, true);
        due("since(0, 0) of one that BALKS", x.since(0, 0), 99);
        due("since(0, 1)", x.since(0, 1), 1);
    }

    private static void can() {
        CHECK.promise(19);
        ClocksTold x = CHECK.of(4, 2, 100, 0, 2, 100);
        due("can(0, 0) with none SEEN", x.can(0, 0), 10);
        due("can(0, 1) with none SEEN", x.can(0, 1), 0);
        x.see(0, 25, 1);
        due("can(0, 0)", x.can(0, 0), 1);
        due("can(0, 1)", x.can(0, 1), 5);
        due("can(1, 0) of another", x.can(1, 0), 10);
        x.see(0, 26, 1);
        due("can(0, 0) of both", x.can(0, 0), 0);
        due("can(0, 1) of both", x.can(0, 1), -5);
        due("can(0, 2)", x.can(0, 2), -1);
        due("can(0, -1)", x.can(0, -1), -1);
        due("can(2, 0)", x.can(2, 0), -1);
        due("of(0, 1) is as it was", x.of(0, 1), 2);
        ClocksTold y = CHECK.enter(CHECK.with("news 9 v>4"), 0, 2, 50);
        y.see(0, 1, 1);
        due("can(0, 0) by v in a TEST", y.can(0, 0), 5);
        due("can(0, 1)", y.can(0, 1), 5);
        due("news(0, 5) is as it was", y.news(0, 5), 1);
        due("of(0, 4) is as it was", y.of(0, 4), 50);
        ClocksTold z = CHECK.enter(CHECK.with("news 5 d=3"), 2, 9, 20);
        z.see(0, 3, 1);
        due("can(0, 0): 6 is minded with v 0, 1, 2", z.can(0, 0), 3);
        due("can(0, 1)", z.can(0, 1), 0);
        z.see(-1, 0, 0);
        z.see(0, 5, 1);
        due("can(0, 0): 80 to 84 hold 10 with v 3 and more", z.can(0, 0), 7);
        due("can(0, 1)", z.can(0, 1), 3);
    }

    private static void fraction(String call, long above, long below, long wantAbove, long wantBelow) {
        due(call + " above the line", above, wantAbove);
        due(call + " below the line", below, wantBelow);
    }

    private static void odds() {
        CHECK.promise(20);
        ClocksTold x = CHECK.of(0, 0, 5, 0, 0, 15, 0, 0, 15);
        fraction("odds(0)", x.odds(0, 0), x.odds(0, 1), 0, 1);
        fraction("odds(1)", x.odds(1, 0), x.odds(1, 1), 1, 3);
        fraction("odds(2)", x.odds(2, 0), x.odds(2, 1), 1, 1);
        fraction("odds(60)", x.odds(60, 0), x.odds(60, 1), 1, 1);
        x.clock(0, 0, 0);
        fraction("odds(1) of four", x.odds(1, 0), x.odds(1, 1), 1, 2);
        due("odds(-1, 0)", x.odds(-1, 0), NO);
        due("odds(61, 0)", x.odds(61, 0), NO);
        due("odds(1, 2)", x.odds(1, 2), NO);
        due("odds(1, -1)", x.odds(1, -1), NO);
        due("odds(1, 0) without clocks", new ClocksTold().odds(1, 0), NO);
        due("odds(1, 1) without clocks", new ClocksTold().odds(1, 1), NO);
    }

    private static void mean() {
        CHECK.promise(21);
        ClocksTold x = CHECK.of(0, 0, 0);
        fraction("mean of 0", x.mean(0), x.mean(1), 0, 1);
        x.clock(0, 0, 10);
        fraction("mean of 10 / 2", x.mean(0), x.mean(1), 5, 1);
        x.clock(0, 0, 1);
        fraction("mean of 11 / 3", x.mean(0), x.mean(1), 11, 3);
        x.clock(0, 0, 3);
        fraction("mean of 14 / 4", x.mean(0), x.mean(1), 7, 2);
        due("mean(2)", x.mean(2), NO);
        due("mean(-1)", x.mean(-1), NO);
        due("mean(0) without clocks", new ClocksTold().mean(0), NO);
        due("mean(1) without clocks", new ClocksTold().mean(1), NO);
    }

    private static void month() {
        CHECK.promise(22);
        ClocksTold x = CHECK.of(0, 0, 15);
        due("month(1)", x.month(1), -1);
        due("month(-2)", x.month(-2), -1);
        due("month(7)", x.month(7), -1);
        for (int i = 1; i <= 10; i++) {
            due("month()", x.month(i % 2 == 0 ? 0 : 6), i);
        }
        due("month(6) of an eleventh", x.month(6), -4);
        due("month(7) of an eleventh", x.month(7), -1);
        due("count(3)", x.count(3), 10);
        due("month(-1)", x.month(-1), 0);
        due("count(3)", x.count(3), 0);
    }

    private static void ends() {
        CHECK.promise(23);
        ClocksTold x = CHECK.of(0, 0, 15, 0, 0, 5);
        due("ends(0)", x.ends(0), 0);
        due("ends(1)", x.ends(1), 20);
        x.month(6);
        x.month(6);
        due("ends(1) of two nights", x.ends(1), 24);
        x.month(0);
        due("ends(0)", x.ends(0), 0);
        due("ends(1): 18 and 8, less 10", x.ends(1), 16);
        x.month(1);
        due("ends(0)", x.ends(0), 1);
        due("ends(1)", x.ends(1), 9);
        x.month(0);
        due("ends(0)", x.ends(0), 2);
        due("ends(1)", x.ends(1), 0);
        due("ends(2)", x.ends(2), -1);
        due("ends(-1)", x.ends(-1), -1);
        due("told(0) is as it was", x.told(0), 100);
        due("told(3) is as it was", x.told(3), 20);
    }

    private static void book() {
        CHECK.promise(24);
        ClocksTold x = CHECK.of(0, 0, 15);
        due("book(1, -1)", x.book(1, -1), -1);
        due("book(-2, 0)", x.book(-2, 0), -1);
        due("book(0, -1)", x.book(0, -1), -2);
        due("book(0, 10000)", x.book(0, 10000), -2);
        due("book(0, 9999)", x.book(0, 9999), 1);
        for (int i = 2; i <= 8; i++) {
            due("book(0, 0)", x.book(0, 0), i);
        }
        due("book(0, 0) of a ninth", x.book(0, 0), -4);
        due("book(0, 10000) of a ninth", x.book(0, 10000), -2);
        due("count(4)", x.count(4), 8);
        due("book(-1, -1)", x.book(-1, -1), 0);
        due("count(4)", x.count(4), 0);
    }

    private static void looked() {
        CHECK.promise(25);
        ClocksTold x = CHECK.of(0, 0, 15, 0, 0, 5);
        due("looked()", x.looked(), -5);
        x.book(1, 95);
        x.book(0, 85);
        due("looked()", x.looked(), -5);
        x.book(0, 84);
        x.book(1, 94);
        due("looked()", x.looked(), 2);
        x.set(1, 94);
        due("looked()", x.looked(), 0);
        x.set(1, 95);
        x.set(0, 84);
        due("looked()", x.looked(), 1);
    }

    public static void main(String[] args) {
        tell();
        tellMuch();
        tellThirty();
        tellOneThatMinds();
        tellToldByDay();
        tellLast();
        pass();
        on();
        soonest();
        most();
        next();
        see();
        since();
        can();
        odds();
        mean();
        month();
        ends();
        book();
        looked();
        CHECK.end("EveningsTest");
    }
}
