/** Counts the answers that are not as due, and ends the test. */
final class Check {
    private int looked = 0;
    private int wrong = 0;

    void due(String call, long got, long want) {
        looked++;
        if (got != want) {
            wrong++;
            System.out.println(call + " answered " + got + ", due is " + want);
        }
    }

    /** Feeds a text whole. */
    static void feed(ClocksTold x, String text) {
        for (int i = 0; i < text.length(); i++) {
            x.feed(text.charAt(i));
        }
    }

    /** Feeds a text whole and makes a bench of it: bench()'s answer. */
    static int bench(ClocksTold x, String text) {
        feed(x, text);
        return x.bench();
    }

    int wrong() {
        return wrong;
    }

    void end(String name) {
        System.out.println(name + ": " + looked + " answers looked at, " + wrong + " not as due");
        if (wrong != 0 || looked == 0) {
            System.exit(1);
        }
    }
}
