import java.util.Arrays;

public final class ClocksTold {
    public static final int NONE = -1, BAD = -2, STATE = -3, FULL = -4;
    public static final long NO = Long.MIN_VALUE;

    private static final int WITHOUT = -5, NO_BENCH = -10;
    private static final int NOTHING = -11, CAST = -12, PLACE = -13, SIZE = -14;

    private static final int CLOCKS = 6, BENCHES = 6, TAPES = 6;
    private static final int FIRST_DAY = 100, LAST_DAY = 9999;
    private static final int NOBODY = 6;
    private static final int CUCKOO = 2, BET = 5, TOLD = 6;
    private static final int KINDS = 7;
    private static final int[] ABOVE = {-1, 0, 0, 0, 1, 2, 3};

    private final Shop shop = new Shop();
    private final Shop image = new Shop();
    private boolean imaged = false;
    private final Reader reader = new Reader();
    private final Bench[] benches = new Bench[BENCHES];
    private int benchCount = 0;
    private final Asker asker = new Asker(shop);
    private final Planner planner = new Planner(shop);
    private final Acts acts = new Acts();
    private final Tape[] tapes = new Tape[TAPES];

    public ClocksTold() {
        for (int i = 0; i < BENCHES; i++) {
            benches[i] = new Bench();
        }
        for (int i = 0; i < TAPES; i++) {
            tapes[i] = new Tape();
        }
    }

    // ---- clocks, benches

    public int clock(int kind, int v, int ago) {
        if (!within(kind, 0, KINDS - 1)) {
            return NONE;
        }
        if (!within(v, 0, 9) || !within(ago, 0, shop.now.today)) {
            return BAD;
        }
        if (shop.clocks >= CLOCKS) {
            return FULL;
        }
        return shop.enter(kind, v, ago);
    }

    public int of(int clock, int what) {
        if (!isClock(clock)) {
            return NONE;
        }
        switch (what) {
            case 0: return shop.kinds[clock];
            case 1: return shop.values[clock];
            case 2: return shop.now.heard[clock];
            case 3: return shop.now.balks[clock] ? 1 : 0;
            case 4: return shop.leftOf(shop.now, clock);
            case 5: return shop.holds(clock, shop.now.today);
            case 6: return asker.minded(clock);
            case 7: return asker.whole(clock);
            default: return NONE;
        }
    }

    public int news(int clock, int day) {
        if (!isClock(clock)) {
            return NONE;
        }
        return within(day, 0, LAST_DAY) ? shop.newsOf(clock, day) : BAD;
    }

    public int set(int clock, int n) {
        if (!isClock(clock)) {
            return NONE;
        }
        if (!within(n, 0, shop.now.today)) {
            return BAD;
        }
        int before = shop.now.heard[clock];
        shop.now.heard[clock] = n;
        return before;
    }

    public int balk(int clock, boolean is) {
        if (!isClock(clock)) {
            return NONE;
        }
        int before = shop.now.balks[clock] ? 1 : 0;
        shop.now.balks[clock] = is;
        return before;
    }

    public int row(int clock, int part, int n) {
        if (!isClock(clock) || !within(part, 0, 3)) {
            return NONE;
        }
        if (!within(n, 0, 9)) {
            return BAD;
        }
        if (shop.kinds[clock] != TOLD) {
            return STATE;
        }
        int before = shop.rows[clock * 4 + part];
        shop.rows[clock * 4 + part] = n;
        return before;
    }

    public int feed(int sign) {
        if (!within(sign, 0, 127)) {
            return BAD;
        }
        return reader.take((byte) sign) ? reader.length : FULL;
    }

    public int bench() {
        if (benchCount >= BENCHES) {
            return FULL;
        }
        Bench fresh = benches[benchCount];
        boolean whole = reader.readInto(fresh);
        reader.length = 0;
        if (!whole) {
            return NO_BENCH - reader.place;
        }
        shop.hold(fresh);
        benchCount++;
        return benchCount - 1;
    }

    public int told(int what) {
        switch (what) {
            case 0: return shop.now.today;
            case 1: return shop.pace();
            case 2: return shop.howManyUp(shop.now);
            case 3: return shop.leftOfAll(shop.now);
            default: return NONE;
        }
    }

    // ---- evenings

    public int tell(int clock) {
        if (!isClock(clock)) {
            return NONE;
        }
        if (shop.now.today >= LAST_DAY) {
            return STATE;
        }
        return shop.evening(shop.now, clock);
    }

    public int pass(int n) {
        if (!within(n, 0, 60)) {
            return BAD;
        }
        if (shop.now.today + n > LAST_DAY) {
            return STATE;
        }
        for (int i = 0; i < n; i++) {
            shop.night(shop.now);
        }
        return shop.now.today;
    }

    public int on(int clock, int n, int what) {
        if (!isClock(clock) || !within(what, 0, 2)) {
            return NONE;
        }
        return within(n, 0, 60) ? asker.behind(clock, n, what) : BAD;
    }

    // ---- orders

    public int soonest(int k) {
        if (!within(k, -1, CLOCKS - 1)) {
            return NONE;
        }
        if (k >= shop.clocks) {
            return WITHOUT;
        }
        planner.findOrder();
        return k < 0 ? planner.best : planner.bestRow[k];
    }

    public int most(int n, int k) {
        if (!within(k, -1, 4)) {
            return NONE;
        }
        if (!within(n, 1, 5)) {
            return BAD;
        }
        if (k >= n || shop.clocks == 0) {
            return WITHOUT;
        }
        planner.findRow(n);
        return k < 0 ? planner.best : planner.bestRow[k];
    }

    public int next() {
        return asker.bestNext();
    }

    // ---- seen, odds

    public int see(int clock, int more, int n) {
        if (clock == -1) {
            return shop.seen.empty();
        }
        if (!isClock(clock)) {
            return NONE;
        }
        if (!within(more, 0, 999) || !within(n, 0, 20)) {
            return BAD;
        }
        return shop.seen.put(clock, more, n);
    }

    public int since(int clock, int what) {
        if (!isClock(clock) || !within(what, 0, 1)) {
            return NONE;
        }
        asker.weighDays(clock);
        return what == 0 ? asker.fitting : asker.least;
    }

    public int can(int clock, int what) {
        if (!isClock(clock) || !within(what, 0, 1)) {
            return NONE;
        }
        asker.weighValues(clock);
        return what == 0 ? asker.fitting : asker.least;
    }

    public long odds(int n, int part) {
        if (!within(n, 0, 60)) {
            return NO;
        }
        return lowest(asker.howManyUpBehind(n), shop.clocks, part);
    }

    public long mean(int part) {
        return lowest(shop.leftOfAll(shop.now), shop.clocks, part);
    }

    // ---- months, books

    public int month(int clock) {
        if (clock == -1) {
            return shop.month.empty();
        }
        if (!isClock(clock) && clock != NOBODY) {
            return NONE;
        }
        return shop.month.put(clock, 0, 0);
    }

    public int ends(int what) {
        if (!within(what, 0, 1)) {
            return NONE;
        }
        return asker.monthEnds(what);
    }

    public int book(int clock, int heard) {
        if (clock == -1) {
            return shop.book.empty();
        }
        if (!isClock(clock)) {
            return NONE;
        }
        if (!within(heard, 0, LAST_DAY)) {
            return BAD;
        }
        return shop.book.put(clock, heard, 0);
    }

    public int looked() {
        for (int i = 0; i < shop.book.count; i++) {
            if (shop.now.heard[shop.book.cell(i, 0)] != shop.book.cell(i, 1)) {
                return i;
            }
        }
        return WITHOUT;
    }

    // ---- judging, the image, acts, tapes

    public int judge(int tape, int i) {
        if (!isTape(tape)) {
            return NONE;
        }
        Tape row = tapes[tape];
        if (row.sort != Tape.SHORTS && row.sort != Tape.EMPTY) {
            return CAST;
        }
        int place = i;
        for (int clock = 0; clock < shop.clocks; clock++) {
            if (!row.has(place)) {
                return 100 + clock;
            }
            if (row.items[place] != shop.now.heard[clock]) {
                return clock;
            }
            place++;
        }
        return WITHOUT;
    }

    public int image() {
        image.copyFrom(shop);
        imaged = true;
        return shop.clocks;
    }

    public int undo() {
        if (!imaged) {
            return STATE;
        }
        shop.copyFrom(image);
        return shop.clocks;
    }

    public int act(int clock, int act, int x) {
        acts.ran = 0;
        if (!isClock(clock) || !within(act, 0, 2)) {
            return 0;
        }
        return acts.start(clock, shop.kinds[clock], shop.values[clock], act, x);
    }

    public int trace(int i) {
        return within(i, 0, Math.min(acts.ran, Acts.KEPT) - 1) ? acts.bodies[i] : NONE;
    }

    public int taken(int clock, int k) {
        if (!within(k, 0, KINDS - 1)) {
            return BAD;
        }
        if (!isClock(clock)) {
            return NOTHING;
        }
        int kind = shop.kinds[clock];
        return isUnder(kind, k) ? kind : CAST;
    }

    public int count(int what) {
        switch (what) {
            case 0: return shop.clocks;
            case 1: return benchCount;
            case 2: return shop.seen.count;
            case 3: return shop.month.count;
            case 4: return shop.book.count;
            case 5: return reader.length;
            case 6: return acts.ran;
            default: return BAD;
        }
    }

    public int tape(int tape, int sort, int n) {
        if (!isTape(tape)) {
            return NONE;
        }
        if (sort == Tape.EMPTY) {
            tapes[tape].become(sort, 0);
            return 1;
        }
        if (!within(sort, 0, Tape.SORTS - 1) || n > Tape.LONGEST) {
            return BAD;
        }
        if (n < 0) {
            return SIZE;
        }
        tapes[tape].become(sort, n);
        return 1;
    }

    public int item(int tape, int i, long v) {
        if (!isTape(tape)) {
            return NONE;
        }
        if (tapes[tape].sort == Tape.EMPTY) {
            return NOTHING;
        }
        if (!tapes[tape].has(i)) {
            return PLACE;
        }
        tapes[tape].items[i] = tapes[tape].cut(v);
        return 1;
    }

    public long read(int tape, int i) {
        if (!isTape(tape) || !tapes[tape].has(i)) {
            return NO;
        }
        return tapes[tape].items[i];
    }

    public int shift(int tape, int i, int other, int j, int n) {
        if (!isTape(tape) || !isTape(other)) {
            return NONE;
        }
        Tape from = tapes[tape];
        Tape to = tapes[other];
        if (from.sort == Tape.EMPTY || to.sort == Tape.EMPTY) {
            return NOTHING;
        }
        if (from.sort != to.sort) {
            return CAST;
        }
        if (!from.hasRun(i, n) || !to.hasRun(j, n)) {
            return PLACE;
        }
        System.arraycopy(from.items, i, to.items, j, n);
        return n;
    }

    // ---- helpers of the face

    private boolean isClock(int clock) {
        return clock >= 0 && clock < shop.clocks;
    }

    private static boolean isTape(int tape) {
        return tape >= 0 && tape < TAPES;
    }

    private static boolean within(int n, int low, int high) {
        return n >= low && n <= high;
    }

    private static boolean isUnder(int kind, int k) {
        int at = kind;
        for (int i = 0; i < KINDS && at >= 0; i++) {
            if (at == k) {
                return true;
            }
            at = ABOVE[at];
        }
        return false;
    }

    private static long lowest(int above, int below, int part) {
        int divisor = commonDivisor(above, below);
        if (below == 0 || divisor == 0) {
            return NO;
        }
        switch (part) {
            case 0: return above / divisor;
            case 1: return below / divisor;
            default: return NO;
        }
    }

    private static int commonDivisor(int a, int b) {
        int one = a;
        int two = b;
        for (int i = 0; i < 1000 && two != 0; i++) {
            int rest = one % two;
            one = two;
            two = rest;
        }
        return one;
    }

    /** TODAY with HEARD and BALKS of all: how it is, or how it would be. */
    private static final class Course {
        private int today = FIRST_DAY;
        private final int[] heard = new int[CLOCKS];
        private final boolean[] balks = new boolean[CLOCKS];

        private void copyFrom(Course other) {
            today = other.today;
            for (int i = 0; i < CLOCKS; i++) {
                heard[i] = other.heard[i];
                balks[i] = other.balks[i];
            }
        }

        private boolean isUp(int clock) {
            return heard[clock] == today;
        }
    }

    /** Rows of up to three numbers, told by hand: SEEN, the MONTH, the BOOK. */
    private static final class Rows {
        private static final int WIDTH = 3;
        private final int limit;
        private final int[] cells;
        private int count = 0;

        private Rows(int limit) {
            this.limit = limit;
            cells = new int[limit * WIDTH];
        }

        private int empty() {
            count = 0;
            return 0;
        }

        private int put(int first, int second, int third) {
            if (count >= limit) {
                return FULL;
            }
            cells[count * WIDTH] = first;
            cells[count * WIDTH + 1] = second;
            cells[count * WIDTH + 2] = third;
            count++;
            return count;
        }

        private int cell(int row, int column) {
            return cells[row * WIDTH + column];
        }

        private void copyFrom(Rows other) {
            System.arraycopy(other.cells, 0, cells, 0, cells.length);
            count = other.count;
        }
    }

    /** All that THE IMAGE keeps, and the rules by which evenings and nights go. */
    private static final class Shop {
        // A test sees of a day no more than its number modulo 100, so NEWS comes again every 100 days.
        private static final int PERIOD = 100;
        private static final int SUMS = PERIOD + 1;

        private int clocks = 0;
        private final int[] kinds = new int[CLOCKS];
        private final int[] values = new int[CLOCKS];
        private final int[] rows = new int[CLOCKS * 4];
        // Per clock: NEWS of the first 0, 1, .. 100 days of a period, together.
        private final int[] sums = new int[CLOCKS * SUMS];
        private final Course now = new Course();
        private final Rows seen = new Rows(5);
        private final Rows month = new Rows(10);
        private final Rows book = new Rows(8);
        private final int[] worth = new int[6];
        private Bench bench = null;

        private void copyFrom(Shop other) {
            clocks = other.clocks;
            System.arraycopy(other.kinds, 0, kinds, 0, CLOCKS);
            System.arraycopy(other.values, 0, values, 0, CLOCKS);
            System.arraycopy(other.rows, 0, rows, 0, rows.length);
            System.arraycopy(other.sums, 0, sums, 0, sums.length);
            now.copyFrom(other.now);
            seen.copyFrom(other.seen);
            month.copyFrom(other.month);
            book.copyFrom(other.book);
            bench = other.bench;
        }

        private int enter(int kind, int v, int ago) {
            int clock = clocks;
            clocks++;
            kinds[clock] = kind;
            values[clock] = v;
            now.heard[clock] = now.today - ago;
            now.balks[clock] = false;
            for (int part = 0; part < 4; part++) {
                rows[clock * 4 + part] = 0;
            }
            learn(clock);
            return clock;
        }

        private void hold(Bench fresh) {
            bench = fresh;
            for (int i = 0; i < clocks; i++) {
                learn(i);
            }
        }

        private int pace() {
            return bench == null ? Bench.USUAL_PACE : bench.pace;
        }

        /** To be called whenever the clock, its v or the bench is another. */
        private void learn(int clock) {
            int at = clock * SUMS;
            worth[0] = clock;
            worth[1] = kinds[clock];
            worth[2] = values[clock];
            sums[at] = 0;
            for (int day = 0; day < PERIOD; day++) {
                worth[3] = day % 10;
                worth[4] = day / 10;
                worth[5] = day;
                int news = bench == null ? Bench.USUAL_NEWS : bench.newsBy(worth);
                sums[at + day + 1] = sums[at + day] + news;
            }
        }

        private int newsOf(int clock, int day) {
            int at = clock * SUMS + day % PERIOD;
            return sums[at + 1] - sums[at];
        }

        private int newsAhead(int clock, int day) {
            int at = clock * SUMS;
            return day / PERIOD * sums[at + PERIOD] + sums[at + day % PERIOD];
        }

        private int leftOf(Course course, int clock) {
            return newsAhead(clock, course.today) - newsAhead(clock, course.heard[clock]);
        }

        private int leftOfAll(Course course) {
            int left = 0;
            for (int i = 0; i < clocks; i++) {
                left += leftOf(course, i);
            }
            return left;
        }

        private int howManyUp(Course course) {
            int up = 0;
            for (int i = 0; i < clocks; i++) {
                if (course.isUp(i)) {
                    up++;
                }
            }
            return up;
        }

        private int holds(int clock, int today) {
            int pace = pace();
            switch (kinds[clock]) {
                case 1: return pace * 2;
                case 3: return Math.max(1, pace / 2);
                case 4: return pace * 2 + values[clock];
                case 6: return Math.max(1, pace / 2) + rows[clock * 4 + today % 4];
                default: return pace;
            }
        }

        private boolean minds(int clock, int day) {
            int kind = kinds[clock];
            if (kind != CUCKOO && kind != BET) {
                return false;
            }
            int v = values[clock];
            if (kind == BET && day % (v + 2) == 0) {
                return false;
            }
            return newsOf(clock, day) > v + 3;
        }

        /** Tells one clock, lets the night go, and answers how many days were told. */
        private int evening(Course course, int clock) {
            int room = holds(clock, course.today);
            int days = 0;
            while (days < 30 && course.heard[clock] < course.today && !course.balks[clock]) {
                int day = course.heard[clock];
                int news = newsOf(clock, day);
                if (minds(clock, day)) {
                    course.balks[clock] = true;
                } else if (days == 0 || news <= room) {
                    room -= news;
                    course.heard[clock]++;
                    days++;
                } else {
                    break;
                }
            }
            night(course);
            return days;
        }

        private void night(Course course) {
            for (int i = 0; i < clocks; i++) {
                if (course.isUp(i)) {
                    course.heard[i]++;
                }
            }
            course.today++;
        }
    }

    /** What is asked of how all would go on; it goes on in a course of its own. */
    private static final class Asker {
        private final Shop shop;
        private final Course course = new Course();
        private int fitting = 0;
        private int least = WITHOUT;

        private Asker(Shop shop) {
            this.shop = shop;
        }

        private void begin() {
            course.copyFrom(shop.now);
        }

        private void tellOften(int clock, int n) {
            for (int i = 0; i < n; i++) {
                shop.evening(course, clock);
            }
        }

        private int behind(int clock, int n, int what) {
            begin();
            tellOften(clock, n);
            switch (what) {
                case 0: return course.heard[clock];
                case 1: return course.balks[clock] ? 1 : 0;
                default: return shop.leftOf(course, clock);
            }
        }

        private int whole(int clock) {
            begin();
            for (int n = 0; n <= 60; n++) {
                if (course.isUp(clock)) {
                    return n;
                }
                shop.evening(course, clock);
            }
            return WITHOUT;
        }

        private int minded(int clock) {
            if (shop.now.balks[clock]) {
                return WITHOUT;
            }
            for (int day = shop.now.heard[clock]; day < shop.now.today; day++) {
                if (shop.minds(clock, day)) {
                    return day;
                }
            }
            return WITHOUT;
        }

        private int bestNext() {
            int best = WITHOUT;
            int bestLeft = Integer.MAX_VALUE;
            for (int i = 0; i < shop.clocks; i++) {
                begin();
                shop.evening(course, i);
                int left = shop.leftOfAll(course);
                if (left < bestLeft) {
                    bestLeft = left;
                    best = i;
                }
            }
            return best;
        }

        private int howManyUpBehind(int n) {
            int up = 0;
            for (int i = 0; i < shop.clocks; i++) {
                begin();
                tellOften(i, n);
                if (course.isUp(i)) {
                    up++;
                }
            }
            return up;
        }

        private int monthEnds(int what) {
            begin();
            for (int i = 0; i < shop.month.count; i++) {
                int clock = shop.month.cell(i, 0);
                if (clock == NOBODY) {
                    shop.night(course);
                } else {
                    shop.evening(course, clock);
                }
            }
            return what == 0 ? shop.howManyUp(course) : shop.leftOfAll(course);
        }

        private void weighDays(int clock) {
            weighNothing();
            int today = shop.now.today;
            for (int x = 0; x <= 99 && x <= today; x++) {
                weigh(clock, today - x, x);
            }
        }

        private void weighValues(int clock) {
            weighNothing();
            int before = shop.values[clock];
            for (int v = 0; v <= 9; v++) {
                shop.values[clock] = v;
                shop.learn(clock);
                weigh(clock, shop.now.heard[clock], v);
            }
            shop.values[clock] = before;
            shop.learn(clock);
        }

        private void weighNothing() {
            fitting = 0;
            least = WITHOUT;
        }

        private void weigh(int clock, int heard, int number) {
            for (int i = 0; i < shop.seen.count; i++) {
                if (shop.seen.cell(i, 0) == clock && !isSo(i, clock, heard)) {
                    return;
                }
            }
            if (fitting == 0) {
                least = number;
            }
            fitting++;
        }

        private boolean isSo(int row, int clock, int heard) {
            begin();
            course.heard[clock] = heard;
            tellOften(clock, shop.seen.cell(row, 2));
            return course.heard[clock] - heard == shop.seen.cell(row, 1);
        }
    }

    /** SOONEST and MOST: rows of clocks, tried as numbers count up, so that the first of several is kept. */
    private static final class Planner {
        private final Shop shop;
        private final Course[] courses = new Course[CLOCKS + 1];
        private final int[] row = new int[CLOCKS];
        private final int[] bestRow = new int[CLOCKS];
        private int best = WITHOUT;

        private Planner(Shop shop) {
            this.shop = shop;
            for (int i = 0; i < courses.length; i++) {
                courses[i] = new Course();
            }
        }

        private void findOrder() {
            best = WITHOUT;
            courses[0].copyFrom(shop.now);
            tryOrders(0, 0, 0);
        }

        private void tryOrders(int depth, int used, int spent) {
            // Evenings only grow: such an order can no longer be the first of the best.
            if (best != WITHOUT && spent >= best) {
                return;
            }
            if (depth >= shop.clocks) {
                keep(spent);
                return;
            }
            for (int i = 0; i < shop.clocks; i++) {
                if ((used >> i & 1) == 0) {
                    row[depth] = i;
                    courses[depth + 1].copyFrom(courses[depth]);
                    int evenings = turn(courses[depth + 1], i);
                    tryOrders(depth + 1, used | 1 << i, spent + evenings);
                }
            }
        }

        private int turn(Course course, int clock) {
            int evenings = 0;
            while (evenings < 20 && !course.isUp(clock) && !course.balks[clock]) {
                shop.evening(course, clock);
                evenings++;
            }
            return evenings;
        }

        private void findRow(int n) {
            best = WITHOUT;
            courses[0].copyFrom(shop.now);
            tryRows(0, n);
        }

        private void tryRows(int depth, int n) {
            if (depth >= n || depth >= CLOCKS) {
                int up = shop.howManyUp(courses[depth]);
                if (up > best) {
                    keep(up);
                }
                return;
            }
            for (int i = 0; i < shop.clocks; i++) {
                row[depth] = i;
                courses[depth + 1].copyFrom(courses[depth]);
                shop.evening(courses[depth + 1], i);
                tryRows(depth + 1, n);
            }
        }

        private void keep(int number) {
            best = number;
            System.arraycopy(row, 0, bestRow, 0, CLOCKS);
        }
    }

    /** CLAUSES as they were read; each E as a row of steps, the parts of a step ahead of it. */
    private static final class Bench {
        private static final int USUAL_PACE = 10, USUAL_NEWS = 1;
        private static final int NOT = -1, AND = -2, OR = -3;
        private static final int CLAUSES = 10, STEPS = 100;

        private int pace = USUAL_PACE;
        private int clauses = 0;
        private final int[] weights = new int[CLAUSES];
        private final int[] ends = new int[CLAUSES];
        private int stepCount = 0;
        private final int[] steps = new int[STEPS];

        private void clear() {
            pace = USUAL_PACE;
            clauses = 0;
            stepCount = 0;
        }

        private void addStep(int step) {
            if (stepCount < STEPS) {
                steps[stepCount] = step;
                stepCount++;
            }
        }

        /** What the latest clause's steps weigh in NEWS: below 0 for hush. */
        private void addClause(int weight) {
            if (clauses < CLAUSES) {
                weights[clauses] = weight;
                ends[clauses] = stepCount;
                clauses++;
            }
        }

        private int newsBy(int[] worth) {
            int news = USUAL_NEWS;
            int from = 0;
            for (int i = 0; i < clauses; i++) {
                if (isTrue(from, ends[i], worth)) {
                    news += weights[i];
                }
                from = ends[i];
            }
            return Math.max(0, news);
        }

        private boolean isTrue(int from, int to, int[] worth) {
            // The lowest bit is the latest part: nesting is low enough for an int to hold all that wait.
            int parts = 0;
            for (int i = from; i < to; i++) {
                int step = steps[i];
                if (step == NOT) {
                    parts ^= 1;
                } else if (step == AND) {
                    parts = (parts >> 1) & (parts | -2);
                } else if (step == OR) {
                    parts = (parts >> 1) | (parts & 1);
                } else {
                    parts = parts << 1 | (passes(step, worth) ? 1 : 0);
                }
            }
            return (parts & 1) == 1;
        }

        private static int testStep(int letter, int sign, int number) {
            return letter * 300 + sign * 100 + number;
        }

        private static boolean passes(int step, int[] worth) {
            int is = worth[step / 300];
            int number = step % 100;
            switch (step / 100 % 3) {
                case 0: return is < number;
                case 1: return is == number;
                default: return is > number;
            }
        }
    }

    /** THE TEXT, and the reading of it: byte by byte, up to the first that does not fit. */
    private static final class Reader {
        private static final int LONGEST = 100, DEEPEST = 4, END = -1;
        private static final String LETTERS = "ckvdth", SIGNS = "<=>";

        private final byte[] text = new byte[LONGEST];
        private int length = 0;
        private int place = 0;
        private int sign = END;
        private boolean failed = false;
        private Bench bench = null;

        private boolean take(byte next) {
            if (length >= LONGEST) {
                return false;
            }
            text[length] = next;
            length++;
            return true;
        }

        /** Whether THE TEXT is a bench; if not, place is the FAULT. */
        private boolean readInto(Bench target) {
            bench = target;
            bench.clear();
            failed = false;
            place = -1;
            step();
            clause();
            for (int i = 1; i < Bench.CLAUSES && !failed && sign == ';'; i++) {
                step();
                clause();
            }
            return !failed && sign == END;
        }

        private void step() {
            place++;
            sign = place < length ? text[place] : END;
        }

        private void need(char due) {
            if (!failed && sign == due) {
                step();
            } else {
                failed = true;
            }
        }

        private void word(String word) {
            for (int i = 0; i < word.length(); i++) {
                need(word.charAt(i));
            }
            need(' ');
        }

        private void clause() {
            if (sign == 'p') {
                word("pace");
                bench.pace = Math.max(1, number());
                return;
            }
            boolean isNews = sign == 'n';
            word(isNews ? "news" : "hush");
            int weight = isNews ? number() : -number();
            need(' ');
            either(0);
            bench.addClause(weight);
        }

        private int number() {
            if (failed || !isDigit()) {
                failed = true;
                return 0;
            }
            int number = sign - '0';
            step();
            if (isDigit()) {
                number = number * 10 + sign - '0';
                step();
            }
            return number;
        }

        private boolean isDigit() {
            return sign >= '0' && sign <= '9';
        }

        private void either(int depth) {
            both(depth);
            for (int i = 0; i < LONGEST && !failed && sign == '|'; i++) {
                step();
                both(depth);
                bench.addStep(Bench.OR);
            }
        }

        private void both(int depth) {
            factor(depth);
            for (int i = 0; i < LONGEST && !failed && sign == '&'; i++) {
                step();
                factor(depth);
                bench.addStep(Bench.AND);
            }
        }

        private void factor(int depth) {
            if (failed) {
                return;
            }
            if (sign == '!' && depth < DEEPEST) {
                step();
                factor(depth + 1);
                bench.addStep(Bench.NOT);
            } else if (sign == '(' && depth < DEEPEST) {
                step();
                either(depth + 1);
                need(')');
            } else {
                int letter = choice(LETTERS);
                int compared = choice(SIGNS);
                bench.addStep(Bench.testStep(letter, compared, number()));
            }
        }

        /** Which of the signs stands here; it is gone past. */
        private int choice(String signs) {
            int which = failed || sign == END ? -1 : signs.indexOf((char) sign);
            if (which < 0) {
                failed = true;
                return 0;
            }
            step();
            return which;
        }
    }

    /** ACTS: the bodies of kinds, and THE TRACE of those that ran. */
    private static final class Acts {
        private static final int KEPT = 20, DEEPEST = 40;
        private static final int TICKS = 0, STRIKES = 1, TELLS = 2;
        // Per kind the bodies of ticks, strikes, tells; 0: it has none. A body's tens are its kind and 1.
        private static final int[] BODIES = {
            10, 11, 12,
            0, 20, 0,
            30, 0, 0,
            0, 0, 40,
            50, 51, 0,
            0, 0, 60,
            71, 70, 0,
        };

        private final int[] bodies = new int[KEPT];
        private int ran = 0;
        private int number = 0;
        private int kind = 0;
        private int value = 0;

        private int start(int clock, int itsKind, int v, int act, int x) {
            number = clock;
            kind = itsKind;
            value = v;
            return run(itsKind, act, x, 0);
        }

        private int run(int from, int act, int x, int depth) {
            int body = bodyFrom(from, act);
            if (body == 0 || depth >= DEEPEST) {
                return 0;
            }
            note(body);
            int above = ABOVE[body / 10 - 1];
            int deeper = depth + 1;
            switch (body) {
                case 10: return x + number;
                case 11: return run(kind, TICKS, x, deeper) - value;
                case 12: return run(kind, STRIKES, x, deeper) * 2;
                case 20: return run(above, STRIKES, x, deeper) ^ 6;
                case 30: return run(above, TICKS, x * 3, deeper);
                case 40: return run(above, TELLS, x, deeper) + run(kind, STRIKES, 1, deeper);
                case 50: return -run(above, TICKS, x, deeper);
                case 51: return run(above, STRIKES, x + 1, deeper);
                case 60: return run(above, TELLS, x - number, deeper);
                case 70: return run(above, STRIKES, x, deeper) + run(above, TICKS, 2, deeper);
                case 71: return run(above, TICKS, x, deeper) ^ value;
                default: return 0;
            }
        }

        private static int bodyFrom(int from, int act) {
            int kind = from;
            for (int i = 0; i < KINDS && kind >= 0; i++) {
                int body = BODIES[kind * 3 + act];
                if (body != 0) {
                    return body;
                }
                kind = ABOVE[kind];
            }
            return 0;
        }

        private void note(int body) {
            if (ran < KEPT) {
                bodies[ran] = body;
            }
            ran++;
        }
    }

    /** A row of numbers of one sort, each kept as a long that is cut as the sort asks. */
    private static final class Tape {
        private static final int EMPTY = -1, BYTES = 0, SHORTS = 1, INTS = 2, BOOLEANS = 4, SORTS = 5;
        private static final int LONGEST = 60;

        private int sort = EMPTY;
        private int length = 0;
        private final long[] items = new long[LONGEST];

        private void become(int newSort, int n) {
            sort = newSort;
            length = n;
            Arrays.fill(items, 0L);
        }

        private boolean has(int i) {
            return i >= 0 && i < length;
        }

        private boolean hasRun(int i, int n) {
            return i >= 0 && n >= 0 && n <= length && i <= length - n;
        }

        private long cut(long v) {
            switch (sort) {
                case BYTES: return (byte) v;
                case SHORTS: return (short) v;
                case INTS: return (int) v;
                case BOOLEANS: return v != 0 ? 1 : 0;
                default: return v;
            }
        }
    }
}
