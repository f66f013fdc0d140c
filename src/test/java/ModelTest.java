import java.lang.reflect.Method;
import java.util.ArrayList;
import java.util.Arrays;
import java.util.Comparator;
import java.util.List;

/** The program and the model answer the same runs of calls, chosen by a fixed row of numbers. */
public final class ModelTest {
    private static final Check CHECK = new Check();
    private static final List<Method> FACE = new ArrayList<>();
    private static long dice;

    private static int roll(int n) {
        dice = dice * 6364136223846793005L + 1442695040888963407L;
        return (int) Math.floorMod(dice >> 33, (long) n);
    }

    private static int from(int low, int high) {
        return low + roll(high - low + 1);
    }

    private static int oneOf(int... numbers) {
        return numbers[roll(numbers.length)];
    }

    // ---- texts

    private static String test() {
        String letter = "ckvdth".charAt(roll(6)) + "" + "<=>".charAt(roll(3));
        return letter + (letter.charAt(0) == 'h' ? roll(100) : roll(10));
    }

    private static String factor(int depth) {
        if (depth > 0 && roll(3) == 0) {
            return "!" + factor(depth - 1);
        }
        return depth > 0 && roll(2) == 0 ? "(" + either(depth - 1) + ")" : test();
    }

    private static String both(int depth) {
        return factor(depth) + (roll(3) == 0 ? "&" + both(depth) : "");
    }

    private static String either(int depth) {
        return both(depth) + (roll(3) == 0 ? "|" + either(depth) : "");
    }

    private static String clause() {
        int n = roll(3) == 0 ? roll(100) : roll(8);
        switch (roll(5)) {
            case 0: return "pace " + from(0, 30);
            case 1:
            case 2: return "hush " + n + " " + either(from(0, 2));
            default: return "news " + n + " " + either(from(0, 2));
        }
    }

    private static String text() {
        StringBuilder s = new StringBuilder(clause());
        int more = roll(6) == 0 ? from(8, 11) : roll(5);
        for (int i = 0; i < more; i++) {
            s.append(';').append(more > 7 ? "pace " + roll(100) : clause());
        }
        return s.length() > 100 ? s.substring(0, 100) : s.toString();
    }

    private static String spoilt(String s) {
        String signs = "news hupc0129kvdt<=>!()&|;  ";
        int at = roll(s.length() + 1);
        char sign = signs.charAt(roll(signs.length()));
        switch (roll(4)) {
            case 0: return s.substring(0, at);
            case 1: return s.substring(0, at) + sign + s.substring(at);
            case 2: return at < s.length() ? s.substring(0, at) + sign + s.substring(at + 1) : s + sign;
            default: return s.substring(0, at) + "((((((!!!!!!".substring(roll(12)) + s.substring(at);
        }
    }

    private static String cut(String s) {
        return s.length() > 100 ? s.substring(0, 100) : s;
    }

    private static void texts() {
        for (int i = 0; i < 1500; i++) {
            dice = i;
            ClocksTold x = new ClocksTold();
            Model m = new Model();
            String s = roll(4) == 0 ? text() : spoilt(roll(3) == 0 ? "news 1 " + either(5) : text());
            s = cut(s);
            for (int j = 0; j < s.length(); j++) {
                x.feed(s.charAt(j));
                m.feed(s.charAt(j));
            }
            CHECK.due("bench() of '" + s + "'", x.bench(), m.bench());
            CHECK.due("count(5) behind '" + s + "'", x.count(5), m.count(5));
            CHECK.due("count(1) behind '" + s + "'", x.count(1), m.count(1));
        }
    }

    // ---- runs

    private static int clock() {
        return roll(15) == 0 ? from(-3, 8) : roll(6);
    }

    private static Object[] args(String name, int today) {
        int place = roll(10) == 0 ? oneOf(-1, 59, 60, 61, Integer.MAX_VALUE, Integer.MIN_VALUE) : roll(12);
        int tape = roll(20) == 0 ? oneOf(-1, 6) : roll(4);
        switch (name) {
            case "clock":
                return new Object[] {roll(20) == 0 ? oneOf(-1, 7) : roll(7), roll(20) == 0 ? oneOf(-1, 10) : roll(10),
                    roll(20) == 0 ? oneOf(-1, today, today + 1) : roll(101)};
            case "of": return new Object[] {clock(), from(-1, 8)};
            case "news": return new Object[] {clock(), roll(20) == 0 ? oneOf(-1, 9999, 10000) : roll(10000)};
            case "set":
                return new Object[] {clock(), roll(10) == 0 ? oneOf(-1, 0, today, today + 1) : today - roll(90)};
            case "balk": return new Object[] {clock(), roll(4) == 0};
            case "row": return new Object[] {clock(), from(-1, 4), from(-1, 10)};
            case "feed": return new Object[] {oneOf(-1, 128, 'n', '(', 127, 0)};
            case "told": return new Object[] {from(-1, 4)};
            case "pass": return new Object[] {roll(10) == 0 ? from(-1, 61) : roll(6)};
            case "on": return new Object[] {clock(), roll(3) == 0 ? from(-1, 61) : roll(12), from(-1, 3)};
            case "soonest": return new Object[] {from(-2, 6)};
            case "most": return new Object[] {roll(8) == 0 ? from(0, 6) : from(1, 3), from(-2, 5)};
            case "see":
                return new Object[] {clock(), roll(15) == 0 ? oneOf(-1, 999, 1000) : roll(20),
                    roll(15) == 0 ? oneOf(-1, 20, 21) : roll(6)};
            case "odds": return new Object[] {roll(4) == 0 ? from(-1, 61) : roll(10), from(-1, 2)};
            case "mean": return new Object[] {from(-1, 2)};
            case "month": return new Object[] {roll(5) == 0 ? 6 : clock()};
            case "ends": return new Object[] {from(-1, 2)};
            case "book": return new Object[] {clock(), roll(10) == 0 ? oneOf(-1, 9999, 10000) : today - roll(100)};
            case "judge": return new Object[] {tape, place};
            case "act":
                return new Object[] {clock(), from(-1, 3), roll(3) == 0 ? oneOf(Integer.MAX_VALUE, Integer.MIN_VALUE, -1) : roll(100)};
            case "trace": return new Object[] {from(-1, 20)};
            case "taken": return new Object[] {clock(), from(-1, 7)};
            case "count": return new Object[] {from(-1, 7)};
            case "tape":
                return new Object[] {tape, roll(10) == 0 ? oneOf(-2, -1, 5) : roll(5), roll(10) == 0 ? oneOf(-1, 0, 60, 61) : roll(15)};
            case "item":
                return new Object[] {tape, place, roll(3) == 0 ? (long) oneOf(-1, 127, 128, 32768, 70000) << roll(40) : (long) today - roll(60)};
            case "read": return new Object[] {tape, place};
            case "shift": return new Object[] {tape, place, roll(3), roll(10), roll(10) == 0 ? oneOf(-1, Integer.MAX_VALUE) : roll(8)};
            case "tell": return new Object[] {clock()};
            case "since":
            case "can": return new Object[] {clock(), from(-1, 2)};
            default: return new Object[0];
        }
    }

    private static Object[] wild(Method method) {
        Object[] args = new Object[method.getParameterCount()];
        for (int i = 0; i < args.length; i++) {
            Class<?> type = method.getParameterTypes()[i];
            int wild = oneOf(Integer.MIN_VALUE, Integer.MIN_VALUE + 1, -20000, -1, 0, 1, 7, 10000, Integer.MAX_VALUE - 1, Integer.MAX_VALUE);
            args[i] = type == boolean.class ? (Object) (wild > 0) : type == long.class ? (Object) (long) wild : (Object) wild;
        }
        return args;
    }

    private static long both(Method method, ClocksTold x, Model m, Object[] args, String at) throws Exception {
        Method model = Model.class.getMethod(method.getName(), method.getParameterTypes());
        long got = ((Number) method.invoke(x, args)).longValue();
        long want = ((Number) model.invoke(m, args)).longValue();
        CHECK.due(at + ": " + method.getName() + Arrays.toString(args), got, want);
        return want;
    }

    private static void setUp(ClocksTold x, Model m, String at, String s) {
        for (int j = 0; j < s.length(); j++) {
            CHECK.due(at + ": feed", x.feed(s.charAt(j)), m.feed(s.charAt(j)));
        }
        CHECK.due(at + ": bench() of '" + s + "'", x.bench(), m.bench());
    }

    private static void trueSight(ClocksTold x, Model m) {
        if (m.w.ones.isEmpty()) {
            return;
        }
        int clock = roll(m.w.ones.size());
        int n = roll(8);
        int more = Model.after(m.w, clock, n).ones.get(clock).heard - m.w.ones.get(clock).heard;
        CHECK.due("see", x.see(clock, more, n), m.see(clock, more, n));
    }

    private static void trueTape(ClocksTold x, Model m) {
        int wrong = roll(8);
        int i = roll(3);
        int n = roll(10);
        CHECK.due("tape", x.tape(0, 1, n), m.tape(0, 1, n));
        for (int c = 0; c < m.w.ones.size(); c++) {
            int heard = m.w.ones.get(c).heard + (c == wrong ? 1 : 0);
            CHECK.due("item", x.item(0, i + c, heard), m.item(0, i + c, heard));
        }
        CHECK.due("judge", x.judge(0, i), m.judge(0, i));
    }

    private static void late(ClocksTold x, Model m) {
        while (m.w.today + 60 <= 9999) {
            CHECK.due("pass(60)", x.pass(60), m.pass(60));
        }
    }

    /** Few days of much news, so that a clock comes far before it minds one. */
    private static String sparseText() {
        StringBuilder s = new StringBuilder("pace " + from(1, 20));
        for (int i = 0; i < 3; i++) {
            s.append(";news ").append(from(3, 20)).append(" h=").append(roll(100));
        }
        return s.append(";news ").append(from(2, 9)).append(" d=").append(roll(10)).append("&t=").append(roll(10)).toString();
    }

    /** Clocks of the kinds that mind days, some days behind a late TODAY. */
    private static void farOn(ClocksTold x, Model m, String at) {
        for (int i = roll(20); i > 0; i--) {
            CHECK.due("pass(60)", x.pass(60), m.pass(60));
        }
        for (int i = 0; i < 5; i++) {
            int kind = oneOf(2, 5, 5, 6);
            int v = roll(10);
            int ago = roll(250) % (m.w.today + 1);
            CHECK.due(at + ": clock", x.clock(kind, v, ago), m.clock(kind, v, ago));
        }
        setUp(x, m, at, sparseText());
    }

    private static void run(int seed) throws Exception {
        dice = seed * 7919L + 13;
        ClocksTold x = new ClocksTold();
        Model m = new Model();
        int clocks = roll(8);
        for (int i = 0; i < 220; i++) {
            String at = "run " + seed + ", call " + i;
            if (seed % 4 == 1 && i == 0) {
                farOn(x, m, at);
            } else if (seed % 40 == 39 && i == 30) {
                late(x, m);
            } else if (i < clocks) {
                Object[] args = args("clock", m.w.today);
                CHECK.due(at + ": clock" + Arrays.toString(args), x.clock((int) args[0], (int) args[1], (int) args[2]),
                    m.clock((int) args[0], (int) args[1], (int) args[2]));
            } else if (roll(30) == 0) {
                setUp(x, m, at, seed % 4 == 1 ? sparseText() : text());
            } else if (roll(20) == 0) {
                trueSight(x, m);
            } else if (roll(30) == 0) {
                trueTape(x, m);
            } else {
                Method method = FACE.get(roll(FACE.size()));
                String name = method.getName();
                boolean dear = name.equals("soonest") || name.equals("most");
                if (!(dear && m.w.ones.size() > 4 && roll(8) != 0)) {
                    both(method, x, m, roll(25) == 0 ? wild(method) : args(name, m.w.today), at);
                }
            }
        }
    }

    public static void main(String[] args) throws Exception {
        for (Method method : ClocksTold.class.getDeclaredMethods()) {
            if (java.lang.reflect.Modifier.isPublic(method.getModifiers())) {
                FACE.add(method);
            }
        }
        FACE.sort(Comparator.comparing(Method::getName));
        CHECK.due("methods of the face", FACE.size(), 35);
        texts();
        int runs = args.length > 0 ? Integer.parseInt(args[0]) : 300;
        for (int seed = 0; seed < runs; seed++) {
            run(seed);
            if (CHECK.wrong() > 20) {
                break;
            }
        }
        CHECK.end("ModelTest");
    }
}
