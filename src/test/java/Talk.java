import java.lang.reflect.Method;
import java.lang.reflect.Modifier;
import java.util.ArrayList;
import java.util.List;
import java.util.Map;
import java.util.TreeMap;

/**
 * An object and all that was said to it. Calls are told as texts, such as "clock(0, 3, 25)", so that all of it can be
 * said again to a twin, and what a call changes be seen by what the twins answer from then on.
 */
final class Talk {
    static final int MOST_CALLS = 512;
    private static final Map<String, Method> FACE = new TreeMap<>();

    private final ClocksTold x = new ClocksTold();
    private final List<String> said = new ArrayList<>();

    static {
        for (Method method : ClocksTold.class.getDeclaredMethods()) {
            if (Modifier.isPublic(method.getModifiers())) {
                FACE.put(method.getName(), method);
            }
        }
    }

    /** A new object with clocks, told by kind, v, ago, kind, v, ago .. */
    static Talk of(int... clocks) {
        return new Talk().enter(clocks);
    }

    /** A new object with a bench. */
    static Talk with(String bench) {
        Talk t = new Talk();
        t.due("bench", t.bench(bench), 0);
        return t;
    }

    /** One that has something of all that there is, and an image that is otherwise; a sixth clock has room. */
    static Talk house() {
        Talk t = with("pace 6;news 5 d=3;hush 9 h=77").enter(6, 3, 30, 5, 1, 20, 2, 2, 17, 4, 2, 40, 1, 0, 0);
        t.does("row(0, 1, 5)", "row(0, 3, 2)", "balk(3, true)", "see(0, 4, 1)", "see(2, 2, 1)", "month(6)", "month(0)");
        t.does("month(2)", "book(0, 70)", "book(1, 80)", "image()", "tell(2)", "set(1, 88)", "book(4, 101)");
        t.does("row(0, 2, 7)", "balk(3, false)", "balk(0, true)", "see(1, 1, 1)", "act(0, 2, 4)");
        t.does("tape(0, 1, 4)", "tape(1, 1, 3)", "tape(2, 0, 3)", "tape(3, 3, 2)", "tape(4, 4, 2)");
        t.does("item(0, 1, 70)", "item(1, 2, 5)", "item(2, 0, 7)", "item(3, 1, -9)", "item(4, 0, 1)");
        return t.feeds("pace 1");
    }

    Talk enter(int... clocks) {
        for (int i = 0; i + 2 < clocks.length; i += 3) {
            due("clock(" + clocks[i] + ", " + clocks[i + 1] + ", " + clocks[i + 2] + ")", i / 3);
        }
        return this;
    }

    long say(String call) {
        if (said.size() >= MOST_CALLS) {
            throw new IllegalStateException("a call beyond those that the document promises: " + call);
        }
        said.add(call);
        int open = call.indexOf('(');
        Method method = FACE.get(call.substring(0, open));
        String inside = call.substring(open + 1, call.length() - 1);
        String[] words = inside.isEmpty() ? new String[0] : inside.split(", ");
        Class<?>[] types = method.getParameterTypes();
        Object[] args = new Object[words.length];
        for (int i = 0; i < words.length; i++) {
            args[i] = types[i] == boolean.class ? (Object) Boolean.valueOf(words[i])
                : types[i] == long.class ? (Object) Long.valueOf(words[i]) : (Object) Integer.valueOf(words[i]);
        }
        try {
            return ((Number) method.invoke(x, args)).longValue();
        } catch (ReflectiveOperationException e) {
            throw new IllegalStateException("call " + said.size() + ", " + call + ", threw", e);
        }
    }

    /** The answers do not matter, but that none is a refusal. */
    Talk does(String... calls) {
        for (String call : calls) {
            long got = say(call);
            due("whether " + call + " is taken", got >= -1000 && got < 0 ? got : 0, 0);
        }
        return this;
    }

    Talk feeds(String text) {
        for (int i = 0; i < text.length(); i++) {
            say("feed(" + (int) text.charAt(i) + ")");
        }
        return this;
    }

    long bench(String text) {
        return feeds(text).say("bench()");
    }

    /** Lets nights go alone up to a day. */
    Talk toDay(int day) {
        long today = say("told(0)");
        while (today < day && today > 0) {
            today = say("pass(" + Math.min(60, day - today) + ")");
        }
        due("told(0)", today, day);
        return this;
    }

    void due(String call, long want) {
        due(call, say(call), want);
    }

    private void due(String call, long got, long want) {
        Edges.CHECK.due(call, got, want);
    }

    void due(String[] calls, long want) {
        for (String call : calls) {
            due(call, want);
        }
    }

    /** The answer, and that all is as it would be without the call: for what is refused, and what is asked. */
    void still(String call, long want) {
        Talk called = twin();
        called.due(call, want);
        List<String> with = called.look();
        List<String> without = twin().look();
        String first = null;
        for (int i = 0; i < Math.min(with.size(), without.size()) && first == null; i++) {
            first = with.get(i).equals(without.get(i)) ? null : with.get(i) + ", without it " + without.get(i);
        }
        due("what is otherwise by " + call + ": " + first, first == null ? 0 : 1, 0);
        due(call, want);
    }

    void still(String[] calls, long want) {
        for (String call : calls) {
            still(call, want);
        }
    }

    private Talk twin() {
        Talk twin = new Talk();
        for (String call : said) {
            twin.say(call);
        }
        return twin;
    }

    // ---- all that can be told of an object, until its calls are used up

    private List<String> look() {
        List<String> seen = new ArrayList<>();
        lookAtAll(seen);
        for (int tape = 0; tape < 6; tape++) {
            for (int i = 0; i < 5; i++) {
                look(seen, "read(" + tape + ", " + i + ")");
            }
        }
        look(seen, "judge(0, 0)", "judge(1, 2)");
        for (int i = 0; i < 12; i++) {
            look(seen, "trace(" + i + ")");
        }
        lookAtRows(seen);
        look(seen, "feed(50)", "bench()", "told(1)", "count(1)", "count(5)");
        for (int tape = 0; tape < 6; tape++) {
            look(seen, "item(" + tape + ", 0, 1311768467463790320)", "read(" + tape + ", 0)");
        }
        look(seen, "see(0, 0, 0)", "month(6)", "book(0, 0)", "clock(0, 0, 0)", "undo()");
        lookAtAll(seen);
        lookAtRows(seen);
        return seen;
    }

    private void lookAtAll(List<String> seen) {
        for (int what = 0; what < 7; what++) {
            look(seen, "count(" + what + ")");
        }
        look(seen, "told(0)", "told(1)", "told(2)", "told(3)", "ends(0)", "ends(1)", "looked()", "next()");
        for (int clock = 0; clock < 6; clock++) {
            for (int what = 0; what < 8; what++) {
                look(seen, "of(" + clock + ", " + what + ")");
            }
            look(seen, "on(" + clock + ", 2, 0)", "since(" + clock + ", 0)", "can(" + clock + ", 0)");
            look(seen, "since(" + clock + ", 1)", "can(" + clock + ", 1)", "news(" + clock + ", 77)");
        }
    }

    private void lookAtRows(List<String> seen) {
        for (int clock = 0; clock < 6; clock++) {
            for (int part = 0; part < 4; part++) {
                look(seen, "row(" + clock + ", " + part + ", 0)");
            }
        }
    }

    private void look(List<String> seen, String... calls) {
        for (String call : calls) {
            // A twin on which one call more was made has one less left.
            if (said.size() < MOST_CALLS - 1) {
                seen.add(call + " answers " + say(call));
            }
        }
    }
}
