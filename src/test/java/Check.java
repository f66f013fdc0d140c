/** Counts the answers that are not as due, and ends the test; and makes what many tests begin with. */
final class Check {
    private static final int MOST_TOLD = 50;
    private int looked = 0;
    private int wrong = 0;
    private String promise = "";

    void promise(int number) {
        promise = "promise " + number + ": ";
    }

    /** The name of a test stands ahead of what it finds. */
    void named(String name) {
        promise = name + ": ";
    }

    void due(String call, long got, long want) {
        looked++;
        if (got != want) {
            wrong++;
            if (wrong <= MOST_TOLD) {
                System.out.println(promise + call + " answered " + got + ", due is " + want);
            }
        }
    }

    int wrong() {
        return wrong;
    }

    int looked() {
        return looked;
    }

    void end(String name) {
        System.out.println(name + ": " + looked + " answers looked at, " + wrong + " not as due");
        if (wrong != 0 || looked == 0) {
            System.exit(1);
        }
    }

    /** Feeds a text whole and makes a bench of it: bench()'s answer. */
    static int bench(ClocksTold x, String text) {
        for (int i = 0; i < text.length(); i++) {
            x.feed(text.charAt(i));
        }
        return x.bench();
    }

    /** A new object with a bench. */
    ClocksTold with(String bench) {
        ClocksTold x = new ClocksTold();
        due("bench() of '" + bench + "'", bench(x, bench), 0);
        return x;
    }

    /** A new object with clocks, told by kind, v, ago, kind, v, ago .. */
    ClocksTold of(int... clocks) {
        return enter(new ClocksTold(), clocks);
    }

    ClocksTold enter(ClocksTold x, int... clocks) {
        for (int i = 0; i + 2 < clocks.length; i += 3) {
            due("clock()", x.clock(clocks[i], clocks[i + 1], clocks[i + 2]), i / 3);
        }
        return x;
    }

    /** Lets nights go alone up to a day. */
    void toDay(ClocksTold x, int day) {
        while (x.told(0) < day) {
            x.pass(Math.min(60, day - x.told(0)));
        }
        due("told(0)", x.told(0), day);
    }
}
