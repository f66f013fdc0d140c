import java.util.ArrayList;
import java.util.HashMap;
import java.util.List;
import java.util.Map;
import java.util.regex.Pattern;

/**
 * The document once more, written without regard to speed and in another way than the program:
 * worlds are copied whole, texts are taken apart at their signs, every order is tried.
 */
public final class Model {
    static final int[] ABOVE = {-1, 0, 0, 0, 1, 2, 3};

    static final class One {
        int number, kind, v, heard;
        boolean balks;
        int[] row = new int[4];

        One copy() {
            One c = new One();
            c.number = number;
            c.kind = kind;
            c.v = v;
            c.heard = heard;
            c.balks = balks;
            c.row = row.clone();
            return c;
        }
    }

    static final class World {
        List<One> ones = new ArrayList<>();
        int today = 100;
        List<int[]> seen = new ArrayList<>(), book = new ArrayList<>();
        List<Integer> month = new ArrayList<>();
        String held = null;

        World copy() {
            World w = new World();
            for (One c : ones) {
                w.ones.add(c.copy());
            }
            w.today = today;
            w.seen.addAll(seen);
            w.book.addAll(book);
            w.month.addAll(month);
            w.held = held;
            return w;
        }
    }

    World w = new World();
    World image = null;
    String text = "";
    int benches = 0;
    Object[] tapes = new Object[6];
    List<Integer> bodies = new ArrayList<>();
    static final Map<String, Integer> KNOWN = new HashMap<>();

    // ---- texts

    static final Pattern PACE = Pattern.compile("pace [0-9]{1,2}");
    static final Pattern NEWS = Pattern.compile("(news|hush) [0-9]{1,2} .*");
    static final Pattern TEST = Pattern.compile("[ckvdth][<=>][0-9]{1,2}");

    static boolean isBench(String s) {
        String[] clauses = s.split(";", -1);
        if (clauses.length > 10) {
            return false;
        }
        for (String c : clauses) {
            if (PACE.matcher(c).matches()) {
                continue;
            }
            if (!NEWS.matcher(c).matches()) {
                return false;
            }
            if (!isE(c.substring(c.indexOf(' ', 5) + 1), 0)) {
                return false;
            }
        }
        return true;
    }

    static boolean isE(String s, int within) {
        if (isT(s, within)) {
            return true;
        }
        for (int i = 0; i < s.length(); i++) {
            if (s.charAt(i) == '|' && isT(s.substring(0, i), within) && isE(s.substring(i + 1), within)) {
                return true;
            }
        }
        return false;
    }

    static boolean isT(String s, int within) {
        if (isF(s, within)) {
            return true;
        }
        for (int i = 0; i < s.length(); i++) {
            if (s.charAt(i) == '&' && isF(s.substring(0, i), within) && isT(s.substring(i + 1), within)) {
                return true;
            }
        }
        return false;
    }

    static boolean isF(String s, int within) {
        if (s.length() < 5 && TEST.matcher(s).matches()) {
            return true;
        }
        if (within > 3 || s.isEmpty()) {
            return false;
        }
        if (s.charAt(0) == '!') {
            return isF(s.substring(1), within + 1);
        }
        return s.charAt(0) == '(' && s.charAt(s.length() - 1) == ')' && s.length() > 2
            && isE(s.substring(1, s.length() - 1), within + 1);
    }

    static final List<String> ENDINGS = new ArrayList<>();

    static {
        for (String whole : new String[] {"news 1 c=1", "hush 1 c=1", "pace 1"}) {
            for (int i = 0; i <= whole.length(); i++) {
                for (String close : new String[] {"", ")", "))", ")))", "))))"}) {
                    if (!ENDINGS.contains(whole.substring(i) + close)) {
                        ENDINGS.add(whole.substring(i) + close);
                    }
                }
            }
        }
    }

    static boolean someBenchBegins(String s) {
        for (String ending : ENDINGS) {
            if (isBench(s + ending)) {
                return true;
            }
        }
        return false;
    }

    static int fault(String s) {
        for (int i = 0; i < s.length(); i++) {
            if (!someBenchBegins(s.substring(0, i + 1))) {
                return i;
            }
        }
        return s.length();
    }

    static boolean holdsE(String e, One c, int day) {
        int open = 0;
        for (int i = e.length() - 1; i >= 0; i--) {
            open += e.charAt(i) == ')' ? 1 : e.charAt(i) == '(' ? -1 : 0;
            if (open == 0 && e.charAt(i) == '|') {
                return holdsE(e.substring(0, i), c, day) || holdsE(e.substring(i + 1), c, day);
            }
        }
        open = 0;
        for (int i = e.length() - 1; i >= 0; i--) {
            open += e.charAt(i) == ')' ? 1 : e.charAt(i) == '(' ? -1 : 0;
            if (open == 0 && e.charAt(i) == '&') {
                return holdsE(e.substring(0, i), c, day) && holdsE(e.substring(i + 1), c, day);
            }
        }
        if (e.charAt(0) == '!') {
            return !holdsE(e.substring(1), c, day);
        }
        if (e.charAt(0) == '(') {
            return holdsE(e.substring(1, e.length() - 1), c, day);
        }
        int is;
        switch (e.charAt(0)) {
            case 'c': is = c.number; break;
            case 'k': is = c.kind; break;
            case 'v': is = c.v; break;
            case 'd': is = day % 10; break;
            case 't': is = (day / 10) % 10; break;
            default: is = day % 100; break;
        }
        int n = Integer.parseInt(e.substring(2));
        return e.charAt(1) == '<' ? is < n : e.charAt(1) == '=' ? is == n : is > n;
    }

    static int newsOf(World w, One c, int day) {
        if (w.held == null) {
            return 1;
        }
        String key = w.held + "/" + c.number + "/" + c.kind + "/" + c.v + "/" + day;
        Integer known = KNOWN.get(key);
        if (known != null) {
            return known;
        }
        int news = 1;
        for (String clause : w.held.split(";")) {
            String[] parts = clause.split(" ");
            if (!parts[0].equals("pace") && holdsE(parts[2], c, day)) {
                int n = Integer.parseInt(parts[1]);
                news += parts[0].equals("news") ? n : -n;
            }
        }
        news = news < 0 ? 0 : news;
        if (KNOWN.size() > 2000000) {
            KNOWN.clear();
        }
        KNOWN.put(key, news);
        return news;
    }

    static int paceOf(World w) {
        int pace = 10;
        if (w.held != null) {
            for (String clause : w.held.split(";")) {
                if (clause.startsWith("pace")) {
                    pace = Integer.parseInt(clause.substring(5));
                }
            }
        }
        return pace < 1 ? 1 : pace;
    }

    // ---- evenings

    static int holdsNow(World w, One c) {
        int pace = paceOf(w);
        int half = pace / 2 < 1 ? 1 : pace / 2;
        int[] by = {pace, 2 * pace, pace, half, 2 * pace + c.v, pace, half + c.row[w.today % 4]};
        return by[c.kind];
    }

    static boolean mindsDay(World w, One c, int day) {
        boolean much = newsOf(w, c, day) > c.v + 3;
        return c.kind == 2 ? much : c.kind == 5 && much && day % (c.v + 2) != 0;
    }

    static boolean isUp(World w, One c) {
        return c.heard == w.today;
    }

    static int evening(World w, int number) {
        One c = w.ones.get(number);
        List<Integer> days = new ArrayList<>();
        int sum = 0;
        for (int day = c.heard; day < w.today && days.size() < 30; day++) {
            if (c.balks) {
                break;
            }
            if (mindsDay(w, c, day)) {
                c.balks = true;
                break;
            }
            int news = newsOf(w, c, day);
            if (!days.isEmpty() && news + sum > holdsNow(w, c)) {
                break;
            }
            days.add(day);
            sum += news;
        }
        c.heard += days.size();
        nightGoes(w);
        return days.size();
    }

    static void nightGoes(World w) {
        for (One c : w.ones) {
            c.heard += isUp(w, c) ? 1 : 0;
        }
        w.today++;
    }

    static int leftOne(World w, One c) {
        int left = 0;
        for (int day = c.heard; day < w.today; day++) {
            left += newsOf(w, c, day);
        }
        return left;
    }

    static int leftAll(World w) {
        int left = 0;
        for (One c : w.ones) {
            left += leftOne(w, c);
        }
        return left;
    }

    static int ups(World w) {
        int up = 0;
        for (One c : w.ones) {
            up += isUp(w, c) ? 1 : 0;
        }
        return up;
    }

    static World after(World w, int number, int evenings) {
        World on = w.copy();
        for (int i = 0; i < evenings; i++) {
            evening(on, number);
        }
        return on;
    }

    boolean is(int clock) {
        return clock >= 0 && clock < w.ones.size();
    }

    // ---- the face

    public int clock(int kind, int v, int ago) {
        if (kind < 0 || kind > 6) {
            return -1;
        }
        if (v < 0 || v > 9 || ago < 0 || ago > w.today) {
            return -2;
        }
        if (w.ones.size() == 6) {
            return -4;
        }
        One c = new One();
        c.number = w.ones.size();
        c.kind = kind;
        c.v = v;
        c.heard = w.today - ago;
        w.ones.add(c);
        return c.number;
    }

    public int of(int clock, int what) {
        if (!is(clock) || what < 0 || what > 7) {
            return -1;
        }
        One c = w.ones.get(clock);
        switch (what) {
            case 0: return c.kind;
            case 1: return c.v;
            case 2: return c.heard;
            case 3: return c.balks ? 1 : 0;
            case 4: return leftOne(w, c);
            case 5: return holdsNow(w, c);
            case 6:
                for (int day = c.heard; day < w.today && !c.balks; day++) {
                    if (mindsDay(w, c, day)) {
                        return day;
                    }
                }
                return -5;
            default:
                for (int n = 0; n <= 60; n++) {
                    World on = after(w, clock, n);
                    if (isUp(on, on.ones.get(clock))) {
                        return n;
                    }
                }
                return -5;
        }
    }

    public int news(int clock, int day) {
        if (!is(clock)) {
            return -1;
        }
        return day < 0 || day > 9999 ? -2 : newsOf(w, w.ones.get(clock), day);
    }

    public int set(int clock, int n) {
        if (!is(clock)) {
            return -1;
        }
        if (n < 0 || n > w.today) {
            return -2;
        }
        int was = w.ones.get(clock).heard;
        w.ones.get(clock).heard = n;
        return was;
    }

    public int balk(int clock, boolean is) {
        if (!is(clock)) {
            return -1;
        }
        boolean was = w.ones.get(clock).balks;
        w.ones.get(clock).balks = is;
        return was ? 1 : 0;
    }

    public int row(int clock, int part, int n) {
        if (!is(clock) || part < 0 || part > 3) {
            return -1;
        }
        if (n < 0 || n > 9) {
            return -2;
        }
        if (w.ones.get(clock).kind != 6) {
            return -3;
        }
        int was = w.ones.get(clock).row[part];
        w.ones.get(clock).row[part] = n;
        return was;
    }

    public int feed(int sign) {
        if (sign < 0 || sign > 127) {
            return -2;
        }
        if (text.length() == 100) {
            return -4;
        }
        text += (char) sign;
        return text.length();
    }

    public int bench() {
        if (benches == 6) {
            return -4;
        }
        String s = text;
        text = "";
        if (!isBench(s)) {
            return -10 - fault(s);
        }
        w.held = s;
        return benches++;
    }

    public int told(int what) {
        switch (what) {
            case 0: return w.today;
            case 1: return paceOf(w);
            case 2: return ups(w);
            case 3: return leftAll(w);
            default: return -1;
        }
    }

    public int tell(int clock) {
        if (!is(clock)) {
            return -1;
        }
        return w.today == 9999 ? -3 : evening(w, clock);
    }

    public int pass(int n) {
        if (n < 0 || n > 60) {
            return -2;
        }
        if (w.today + n > 9999) {
            return -3;
        }
        for (int i = 0; i < n; i++) {
            nightGoes(w);
        }
        return w.today;
    }

    public int on(int clock, int n, int what) {
        if (!is(clock) || what < 0 || what > 2) {
            return -1;
        }
        if (n < 0 || n > 60) {
            return -2;
        }
        World on = after(w, clock, n);
        One c = on.ones.get(clock);
        return what == 0 ? c.heard : what == 1 ? (c.balks ? 1 : 0) : leftOne(on, c);
    }

    int bestEvenings;
    List<Integer> bestRow;

    void orders(World at, List<Integer> row, int evenings) {
        if (row.size() == w.ones.size()) {
            if (bestRow == null || evenings < bestEvenings) {
                bestRow = new ArrayList<>(row);
                bestEvenings = evenings;
            }
            return;
        }
        for (int i = 0; i < w.ones.size(); i++) {
            if (!row.contains(i)) {
                World on = at.copy();
                int n = 0;
                while (!isUp(on, on.ones.get(i)) && !on.ones.get(i).balks && n < 20) {
                    evening(on, i);
                    n++;
                }
                List<Integer> longer = new ArrayList<>(row);
                longer.add(i);
                orders(on, longer, evenings + n);
            }
        }
    }

    public int soonest(int k) {
        if (k < -1 || k > 5) {
            return -1;
        }
        bestRow = null;
        orders(w, new ArrayList<>(), 0);
        return k == -1 ? bestEvenings : k < bestRow.size() ? bestRow.get(k) : -5;
    }

    public int most(int n, int k) {
        if (k < -1 || k > 4) {
            return -1;
        }
        if (n < 1 || n > 5) {
            return -2;
        }
        if (w.ones.isEmpty()) {
            return -5;
        }
        int size = w.ones.size();
        int rows = 1;
        for (int i = 0; i < n; i++) {
            rows *= size;
        }
        int best = -1;
        int[] first = null;
        for (int r = 0; r < rows; r++) {
            int[] row = new int[n];
            int rest = r;
            for (int i = n - 1; i >= 0; i--) {
                row[i] = rest % size;
                rest /= size;
            }
            World on = w.copy();
            for (int c : row) {
                evening(on, c);
            }
            if (ups(on) > best) {
                best = ups(on);
                first = row;
            }
        }
        return k == -1 ? best : k < n ? first[k] : -5;
    }

    public int next() {
        int best = -5;
        for (int i = 0; i < w.ones.size(); i++) {
            if (best == -5 || leftAll(after(w, i, 1)) < leftAll(after(w, best, 1))) {
                best = i;
            }
        }
        return best;
    }

    public int see(int clock, int more, int n) {
        if (clock == -1) {
            w.seen.clear();
            return 0;
        }
        if (!is(clock)) {
            return -1;
        }
        if (more < 0 || more > 999 || n < 0 || n > 20) {
            return -2;
        }
        if (w.seen.size() == 5) {
            return -4;
        }
        w.seen.add(new int[] {clock, more, n});
        return w.seen.size();
    }

    static boolean allSo(World w, int clock) {
        for (int[] s : w.seen) {
            if (s[0] == clock
                && after(w, clock, s[2]).ones.get(clock).heard - w.ones.get(clock).heard != s[1]) {
                return false;
            }
        }
        return true;
    }

    public int since(int clock, int what) {
        if (!is(clock) || what < 0 || what > 1) {
            return -1;
        }
        List<Integer> xs = new ArrayList<>();
        for (int x = 0; x < 100 && x <= w.today; x++) {
            World would = w.copy();
            would.ones.get(clock).heard = would.today - x;
            if (allSo(would, clock)) {
                xs.add(x);
            }
        }
        return what == 0 ? xs.size() : xs.isEmpty() ? -5 : xs.get(0);
    }

    public int can(int clock, int what) {
        if (!is(clock) || what < 0 || what > 1) {
            return -1;
        }
        List<Integer> vs = new ArrayList<>();
        for (int v = 0; v < 10; v++) {
            World would = w.copy();
            would.ones.get(clock).v = v;
            if (allSo(would, clock)) {
                vs.add(v);
            }
        }
        return what == 0 ? vs.size() : vs.isEmpty() ? -5 : vs.get(0);
    }

    static long part(long above, long below, int part) {
        for (long d = below; d > 1; d--) {
            if (above % d == 0 && below % d == 0) {
                above /= d;
                below /= d;
            }
        }
        return part == 0 ? above : below;
    }

    public long odds(int n, int part) {
        if (n < 0 || n > 60 || part < 0 || part > 1 || w.ones.isEmpty()) {
            return Long.MIN_VALUE;
        }
        int up = 0;
        for (One c : w.ones) {
            World on = after(w, c.number, n);
            up += isUp(on, on.ones.get(c.number)) ? 1 : 0;
        }
        return part(up, w.ones.size(), part);
    }

    public long mean(int part) {
        if (part < 0 || part > 1 || w.ones.isEmpty()) {
            return Long.MIN_VALUE;
        }
        return part(leftAll(w), w.ones.size(), part);
    }

    public int month(int clock) {
        if (clock == -1) {
            w.month.clear();
            return 0;
        }
        if (clock != 6 && !is(clock)) {
            return -1;
        }
        if (w.month.size() == 10) {
            return -4;
        }
        w.month.add(clock);
        return w.month.size();
    }

    public int ends(int what) {
        World on = w.copy();
        for (int c : w.month) {
            if (c == 6) {
                nightGoes(on);
            } else {
                evening(on, c);
            }
        }
        return what == 0 ? ups(on) : what == 1 ? leftAll(on) : -1;
    }

    public int book(int clock, int heard) {
        if (clock == -1) {
            w.book.clear();
            return 0;
        }
        if (!is(clock)) {
            return -1;
        }
        if (heard < 0 || heard > 9999) {
            return -2;
        }
        if (w.book.size() == 8) {
            return -4;
        }
        w.book.add(new int[] {clock, heard});
        return w.book.size();
    }

    public int looked() {
        for (int[] b : w.book) {
            if (w.ones.get(b[0]).heard != b[1]) {
                return w.book.indexOf(b);
            }
        }
        return -5;
    }

    public int judge(int tape, int i) {
        if (tape < 0 || tape > 5) {
            return -1;
        }
        if (tapes[tape] != null && !(tapes[tape] instanceof short[])) {
            return -12;
        }
        int looked = 0;
        try {
            for (One c : w.ones) {
                if (((short[]) tapes[tape])[i + looked] != c.heard) {
                    return looked;
                }
                looked++;
            }
        } catch (NullPointerException | ArrayIndexOutOfBoundsException e) {
            return 100 + looked;
        }
        return -5;
    }

    public int image() {
        image = w.copy();
        return w.ones.size();
    }

    public int undo() {
        if (image == null) {
            return -3;
        }
        w = image.copy();
        return w.ones.size();
    }

    public int act(int clock, int act, int x) {
        bodies.clear();
        if (!is(clock) || act < 0 || act > 2) {
            return 0;
        }
        One c = w.ones.get(clock);
        Acting a = c.kind == 0 ? new Acting() : c.kind == 1 ? new Fast() : c.kind == 2 ? new Cuckoo()
            : c.kind == 3 ? new Slow() : c.kind == 4 ? new Watch() : c.kind == 5 ? new Bet() : new Told();
        a.i = c.number;
        a.v = c.v;
        a.ran = bodies;
        return act == 0 ? a.ticks(x) : act == 1 ? a.strikes(x) : a.tells(x);
    }

    static class Acting {
        int i, v;
        List<Integer> ran;

        int ticks(int x) { ran.add(10); return x + i; }
        int strikes(int x) { ran.add(11); return ticks(x) - v; }
        int tells(int x) { ran.add(12); return strikes(x) * 2; }
    }

    static class Fast extends Acting {
        int strikes(int x) { ran.add(20); return super.strikes(x) ^ 6; }
    }

    static class Cuckoo extends Acting {
        int ticks(int x) { ran.add(30); return super.ticks(x * 3); }
    }

    static class Slow extends Acting {
        int tells(int x) { ran.add(40); return super.tells(x) + strikes(1); }
    }

    static class Watch extends Fast {
        int ticks(int x) { ran.add(50); return -super.ticks(x); }
        int strikes(int x) { ran.add(51); return super.strikes(x + 1); }
    }

    static class Bet extends Cuckoo {
        int tells(int x) { ran.add(60); return super.tells(x - i); }
    }

    static class Told extends Slow {
        int strikes(int x) { ran.add(70); return super.strikes(x) + super.ticks(2); }
        int ticks(int x) { ran.add(71); return super.ticks(x) ^ v; }
    }

    public int trace(int i) {
        return i < 0 || i >= bodies.size() || i >= 20 ? -1 : bodies.get(i);
    }

    public int taken(int clock, int k) {
        if (k < 0 || k > 6) {
            return -2;
        }
        if (!is(clock)) {
            return -11;
        }
        int kind = w.ones.get(clock).kind;
        for (int up = kind; up >= 0; up = ABOVE[up]) {
            if (up == k) {
                return kind;
            }
        }
        return -12;
    }

    public int count(int what) {
        int[] counts = {w.ones.size(), benches, w.seen.size(), w.month.size(), w.book.size(),
            text.length(), bodies.size()};
        return what < 0 || what > 6 ? -2 : counts[what];
    }

    public int tape(int tape, int sort, int n) {
        if (tape < 0 || tape > 5) {
            return -1;
        }
        if (sort < -1 || sort > 4 || sort != -1 && n > 60) {
            return -2;
        }
        if (sort != -1 && n < 0) {
            return -14;
        }
        tapes[tape] = sort == -1 ? null : sort == 0 ? new byte[n] : sort == 1 ? new short[n]
            : sort == 2 ? new int[n] : sort == 3 ? new long[n] : (Object) new boolean[n];
        return 1;
    }

    public int item(int tape, int i, long v) {
        if (tape < 0 || tape > 5) {
            return -1;
        }
        Object t = tapes[tape];
        if (t == null) {
            return -11;
        }
        if (i < 0 || i >= java.lang.reflect.Array.getLength(t)) {
            return -13;
        }
        if (t instanceof byte[]) {
            ((byte[]) t)[i] = (byte) v;
        } else if (t instanceof short[]) {
            ((short[]) t)[i] = (short) v;
        } else if (t instanceof int[]) {
            ((int[]) t)[i] = (int) v;
        } else if (t instanceof long[]) {
            ((long[]) t)[i] = v;
        } else {
            ((boolean[]) t)[i] = v != 0;
        }
        return 1;
    }

    public long read(int tape, int i) {
        if (tape < 0 || tape > 5 || tapes[tape] == null || i < 0
            || i >= java.lang.reflect.Array.getLength(tapes[tape])) {
            return Long.MIN_VALUE;
        }
        Object t = tapes[tape];
        if (t instanceof boolean[]) {
            return ((boolean[]) t)[i] ? 1 : 0;
        }
        return java.lang.reflect.Array.getLong(t, i);
    }

    public int shift(int tape, int i, int other, int j, int n) {
        if (tape < 0 || tape > 5 || other < 0 || other > 5) {
            return -1;
        }
        if (tapes[tape] == null || tapes[other] == null) {
            return -11;
        }
        if (tapes[tape].getClass() != tapes[other].getClass()) {
            return -12;
        }
        try {
            System.arraycopy(tapes[tape], i, tapes[other], j, n);
        } catch (IndexOutOfBoundsException e) {
            return -13;
        }
        return n;
    }
}
