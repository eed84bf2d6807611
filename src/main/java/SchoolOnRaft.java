import java.util.Arrays;

/** A school on a raft: ../shared/DOC.md tells what each call answers. */
public final class SchoolOnRaft {
    public static final int NONE = -1, BAD = -2, STATE = -3, FULL = -4;
    public static final long NO = -4611686018427387904L;

    private static final int NOTHING = -11, OUTSIDE = -12, UNLIKE = -13, BELOW = -14;
    private static final int FAULT = -100;
    private static final int BENDS = 6, LAST = 5, KINDS = 6, LESSONS = 4, CHILDREN = 6;
    private static final int NUMBER_MOST = 9, AGE_LEAST = 5, AGE_MOST = 14, SEEDS = 20, WATER_MOST = 10;
    private static final int TEXTS = 6, TAPE = 160, DEEPEST = 5;
    private static final int SHEETS = 4, SORTS = 3, ITEMS = 40;

    private final Spring spring;
    private final Search search;
    private final Reader reader;
    private final Board kept;
    private boolean imaged;
    private final int[] draft;
    private final int[] ends;
    private final int[][] items;
    private final int[] sizes;
    private final int[] sorts;

    public SchoolOnRaft() {
        spring = new Spring();
        search = new Search();
        reader = new Reader();
        kept = new Board();
        imaged = false;
        draft = new int[BENDS];
        ends = new int[CHILDREN];
        items = new int[SHEETS][ITEMS];
        sizes = new int[SHEETS];
        sorts = new int[SHEETS];
        Arrays.fill(sorts, NONE);
    }

    // ---- lessons, children, plans

    public int lesson(int kind, int number, int needs) {
        Board now = spring.now;
        if (!isKind(kind) || !isNumber(number) || !areLessons(needs, now.lessonCount)) {
            return BAD;
        }
        if (now.lessonCount >= LESSONS) {
            return FULL;
        }
        search.forget();
        return now.addLesson(kind, number, needs);
    }

    public int child(int what, int age) {
        return bring(what, age);
    }

    public int set(int what, int of, int v) {
        if (!maySet(what, of, v)) {
            return BAD;
        }
        int[] row = settable(what);
        int was = row[of];
        row[of] = v;
        search.forget();
        return was;
    }

    public int told(int of, int what) {
        if (what < 0 || what > 7 || !(what < 5 ? isLesson(of) : isChild(of))) {
            return BAD;
        }
        Board now = spring.now;
        switch (what) {
            case 0:
                return now.kinds[of];
            case 1:
                return now.numbers[of];
            case 2:
                return now.needs[of];
            case 3:
                return spring.kindOf(of).times(now.numbers[of]);
            case 4:
                return spring.kindOf(of).value(now.numbers[of]);
            case 5:
                return now.ons[of];
            case 6:
                return now.offs[of];
            default:
                return now.ages[of];
        }
    }

    public int give(int raft, int bend, int lesson) {
        if (!isRaft(raft) || !isBend(bend) || lesson != NONE && !isLesson(lesson)) {
            return BAD;
        }
        int[] plan = planOf(raft);
        int was = plan[bend];
        plan[bend] = lesson;
        return was;
    }

    public int given(int raft, int bend) {
        if (!isRaft(raft) || !isBend(bend)) {
            return BAD;
        }
        return planOf(raft)[bend];
    }

    // ---- texts

    public int feed(int letter) {
        if (letter < 0 || letter > 255) {
            return BAD;
        }
        if (reader.size >= TAPE) {
            return FULL;
        }
        reader.tape[reader.size] = letter;
        reader.size++;
        return reader.size;
    }

    public int text() {
        if (spring.textCount >= TEXTS) {
            return FULL;
        }
        Text read = reader.read();
        if (read == null) {
            return FAULT - reader.start;
        }
        spring.texts[spring.textCount] = read;
        spring.textCount++;
        return spring.textCount - 1;
    }

    public int force(int text) {
        if (text < 0 || text >= spring.textCount) {
            return BAD;
        }
        int was = spring.now.rule;
        spring.now.rule = text;
        search.forget();
        return was;
    }

    // ---- a spring

    public int has(int child, int bend) {
        if (!isChild(child) || !isBend(bend)) {
            return BAD;
        }
        return spring.ownedBehind(bend, child, spring.now.ons[child], spring.now.offs[child]);
    }

    public int heard(int child, int lesson, int what) {
        if (!isChild(child) || !isLesson(lesson) || what < 0 || what > 1) {
            return BAD;
        }
        Board now = spring.now;
        int memory = spring.memoryOf(child, now.ons[child], now.offs[child], now.plan);
        return what == 0 ? Spring.timesHeard(memory, lesson) : Spring.lastUnderstood(memory, lesson);
    }

    public int points(int child) {
        if (child == NONE) {
            return pointsOfAll(spring.now.plan);
        }
        return isChild(child) ? spring.pointsOf(child, spring.now.plan) : BAD;
    }

    // ---- what would be better

    public int best(int what) {
        if (what < 0 || what > BENDS) {
            return BAD;
        }
        search.find(spring);
        return what == 0 ? search.most : search.row[what - 1];
    }

    public int lay() {
        search.find(spring);
        System.arraycopy(search.row, 0, spring.now.plan, 0, BENDS);
        return search.most;
    }

    public int run(int child, int lessons, int what) {
        Board now = spring.now;
        if (!isChild(child) || !areLessons(lessons, now.lessonCount) || what < 0 || what > 2) {
            return BAD;
        }
        int cost = NONE;
        int bestOn = NONE;
        int bestOff = NONE;
        for (int on = 0; on <= now.ons[child]; on++) {
            for (int off = now.offs[child]; off < BENDS; off++) {
                int memory = spring.memoryOf(child, on, off, now.plan);
                if ((spring.owned(memory, LAST) & lessons) != lessons) {
                    continue;
                }
                int costs = costOf(child, on, off);
                if (cost == NONE || costs < cost) {
                    cost = costs;
                    bestOn = on;
                    bestOff = off;
                }
            }
        }
        return what == 0 ? cost : what == 1 ? bestOn : bestOff;
    }

    public int twice(int lesson, int what) {
        if (!isLesson(lesson) || what < 0 || what > 1) {
            return BAD;
        }
        int[] plan = spring.now.plan;
        int most = pointsOfAll(plan);
        int where = NONE;
        for (int bend = 0; bend < BENDS; bend++) {
            System.arraycopy(plan, 0, draft, 0, BENDS);
            draft[bend] = lesson;
            int then = pointsOfAll(draft);
            if (then > most) {
                most = then;
                where = bend;
            }
        }
        return what == 0 || where == NONE ? where : most;
    }

    public int change(int child, int bend) {
        if (!isChild(child)) {
            return BAD;
        }
        int on = spring.now.ons[child];
        int off = spring.now.offs[child];
        if (bend != NONE) {
            return bend < on || bend > off ? BAD : pointsChanging(child, bend);
        }
        int most = NONE;
        int where = NONE;
        for (int c = on; c <= off; c++) {
            int then = pointsChanging(child, c);
            if (then > most) {
                most = then;
                where = c;
            }
        }
        return where;
    }

    // ---- exams, who knows what

    public int exam(int child, int sheet) {
        int refusal = refusalOfExam(child, sheet);
        if (refusal != 0) {
            return refusal;
        }
        return spring.firstUnlike(items[sheet], child, spring.now.ons[child], spring.now.offs[child]);
    }

    public int aboard(int child, int sheet, int what) {
        int refusal = refusalOfExam(child, sheet);
        if (refusal != 0) {
            return refusal;
        }
        if (what < 0 || what > 1) {
            return BAD;
        }
        int many = 0;
        int first = NONE;
        for (int on = 0; on < BENDS; on++) {
            for (int off = on; off < BENDS; off++) {
                if (spring.firstUnlike(items[sheet], child, on, off) == NONE) {
                    many++;
                    first = first == NONE ? 10 * on + off : first;
                }
            }
        }
        return what == 0 ? many : first;
    }

    public int together(int what) {
        if (what < 0 || what > 2) {
            return BAD;
        }
        for (int child = 0; child < spring.now.childCount; child++) {
            ends[child] = ownedAtEnd(child, spring.now.plan);
        }
        int everyone = (1 << spring.now.childCount) - 1;
        int all = endsOf(everyone);
        if (what == 0) {
            return all;
        }
        int fewest = everyone;
        for (int who = everyone; who >= 0; who--) {
            if (endsOf(who) == all && Integer.bitCount(who) <= Integer.bitCount(fewest)) {
                fewest = who;
            }
        }
        return what == 1 ? fewest : Integer.bitCount(fewest);
    }

    public int known(int lesson) {
        if (!isLesson(lesson)) {
            return BAD;
        }
        return whoHave(lesson, spring.now.plan);
    }

    public int drawn(int seed, int water) {
        if (!isWater(water)) {
            return BAD;
        }
        draw(seed, water);
        return pointsOfAll(draft);
    }

    public long chance(int seed, int n, int water, int lesson, int part) {
        if (n < 1 || n > SEEDS || !isWater(water) || !isLesson(lesson) || part < 0 || part > 1) {
            return NO;
        }
        int everyone = (1 << spring.now.childCount) - 1;
        int lucky = 0;
        for (int k = 0; k < n; k++) {
            draw(seed + k, water);
            if (whoHave(lesson, draft) == everyone) {
                lucky++;
            }
        }
        int divisor = commonDivisor(lucky, n);
        return part == 0 ? lucky / divisor : n / divisor;
    }

    public int image() {
        kept.become(spring.now);
        imaged = true;
        return kept.childCount;
    }

    public int back() {
        if (!imaged) {
            return STATE;
        }
        spring.now.become(kept);
        search.forget();
        return kept.childCount;
    }

    public int count(int what) {
        switch (what) {
            case 0:
                return spring.now.lessonCount;
            case 1:
                return spring.now.childCount;
            case 2:
                return bendsWithLesson(spring.now.plan);
            case 3:
                return spring.textCount;
            case 4:
                return reader.size;
            case 5:
                return spring.now.rule;
            default:
                return BAD;
        }
    }

    // ---- the host

    public int sheet(int sheet, int sort, int n) {
        if (!isSheet(sheet) || sort != NONE && !isSort(sort)) {
            return BAD;
        }
        if (sort != NONE && n > ITEMS) {
            return BAD;
        }
        if (sort != NONE && n < 0) {
            return BELOW;
        }
        sorts[sheet] = sort;
        sizes[sheet] = sort == NONE ? 0 : n;
        Arrays.fill(items[sheet], 0);
        return 1;
    }

    public int cell(int sheet, int i, int v) {
        if (!isSheet(sheet)) {
            return BAD;
        }
        if (sorts[sheet] == NONE) {
            return NOTHING;
        }
        if (i < 0 || i >= sizes[sheet]) {
            return OUTSIDE;
        }
        items[sheet][i] = trimmed(sorts[sheet], v);
        return 1;
    }

    public int copy(int sheet, int i, int other, int j, int n) {
        if (!isSheet(sheet) || !isSheet(other)) {
            return BAD;
        }
        if (sorts[sheet] == NONE || sorts[other] == NONE) {
            return NOTHING;
        }
        if (sorts[sheet] != sorts[other]) {
            return UNLIKE;
        }
        if (!isStretch(i, n, sizes[sheet]) || !isStretch(j, n, sizes[other])) {
            return OUTSIDE;
        }
        System.arraycopy(items[sheet], i, items[other], j, n);
        return n;
    }

    public int children(int sheet, int sort, int from, int n) {
        if (!isSheet(sheet) || !isSort(sort) || n < 0 || n > CHILDREN) {
            return BAD;
        }
        // A missing sheet is of no sort, so it can't be of another one.
        if (sorts[sheet] == NONE) {
            return NOTHING;
        }
        if (sorts[sheet] != sort) {
            return UNLIKE;
        }
        int came = 0;
        for (int k = 0; k < n; k++) {
            if (!isStretch(from, 2 * k + 2, sizes[sheet])) {
                return OUTSIDE;
            }
            int number = bring(items[sheet][from + 2 * k], items[sheet][from + 2 * k + 1]);
            came = number >= 0 ? came + 1 : came;
        }
        return came;
    }

    public int taken(int lesson, int k) {
        if (!isKind(k)) {
            return BAD;
        }
        if (!isLesson(lesson)) {
            return NOTHING;
        }
        return isUnder(spring.kindOf(lesson), k) ? spring.now.numbers[lesson] : UNLIKE;
    }

    // ---- what may be

    private boolean isLesson(int lesson) {
        return lesson >= 0 && lesson < spring.now.lessonCount;
    }

    private boolean isChild(int child) {
        return child >= 0 && child < spring.now.childCount;
    }

    private static boolean isBend(int bend) {
        return bend >= 0 && bend < BENDS;
    }

    private static boolean isRaft(int raft) {
        return raft == 0 || raft == 1;
    }

    private static boolean isKind(int kind) {
        return kind >= 0 && kind < KINDS;
    }

    private static boolean isNumber(int number) {
        return number >= 0 && number <= NUMBER_MOST;
    }

    private static boolean isAge(int age) {
        return age >= AGE_LEAST && age <= AGE_MOST;
    }

    private static boolean isWater(int water) {
        return water >= 0 && water <= WATER_MOST;
    }

    private static boolean isSheet(int sheet) {
        return sheet >= 0 && sheet < SHEETS;
    }

    private static boolean isSort(int sort) {
        return sort >= 0 && sort < SORTS;
    }

    private static boolean areLessons(int bits, int below) {
        return bits >>> below == 0;
    }

    private static boolean isStretch(int from, int n, int size) {
        // n is taken from size, as from and n together could wrap.
        return from >= 0 && n >= 0 && n <= size && from <= size - n;
    }

    private boolean maySet(int what, int of, int v) {
        Board now = spring.now;
        switch (what) {
            case 0:
                return isLesson(of) && isNumber(v);
            case 1:
                return isLesson(of) && areLessons(v, of);
            case 2:
                return isChild(of) && v >= 0 && v <= now.offs[of];
            case 3:
                return isChild(of) && v >= now.ons[of] && v <= LAST;
            case 4:
                return isChild(of) && isAge(v);
            default:
                return false;
        }
    }

    private int[] settable(int what) {
        Board now = spring.now;
        switch (what) {
            case 0:
                return now.numbers;
            case 1:
                return now.needs;
            case 2:
                return now.ons;
            case 3:
                return now.offs;
            default:
                return now.ages;
        }
    }

    private static boolean isUnder(Kind kind, int k) {
        switch (k) {
            case 1:
                return kind instanceof LongKind;
            case 2:
                return kind instanceof LightKind;
            case 3:
                return kind instanceof HardKind;
            case 4:
                return kind instanceof SongKind;
            case 5:
                return kind instanceof ProofKind;
            default:
                return true;
        }
    }

    private int refusalOfExam(int child, int sheet) {
        if (!isChild(child) || !isSheet(sheet)) {
            return BAD;
        }
        if (sorts[sheet] == NONE) {
            return NOTHING;
        }
        return sizes[sheet] == BENDS ? 0 : BAD;
    }

    // ---- parts of the answers

    private int[] planOf(int raft) {
        return raft == 0 ? spring.now.plan : spring.now.other;
    }

    private int bring(int what, int age) {
        if (what < 0 || !isBend(what / 10) || !isBend(what % 10) || what / 10 > what % 10 || !isAge(age)) {
            return BAD;
        }
        if (spring.now.childCount >= CHILDREN) {
            return FULL;
        }
        search.forget();
        return spring.now.addChild(what / 10, what % 10, age);
    }

    private static int trimmed(int sort, int v) {
        return sort == 0 ? (byte) v : sort == 1 ? (short) v : v;
    }

    private int pointsOfAll(int[] plan) {
        int sum = 0;
        for (int child = 0; child < spring.now.childCount; child++) {
            sum += spring.pointsOf(child, plan);
        }
        return sum;
    }

    private int pointsChanging(int child, int last) {
        for (int bend = 0; bend < BENDS; bend++) {
            draft[bend] = bend <= last ? spring.now.plan[bend] : spring.now.other[bend];
        }
        return spring.pointsOf(child, draft);
    }

    private int costOf(int child, int on, int off) {
        int sum = 0;
        for (int bend = on; bend < spring.now.ons[child]; bend++) {
            sum += spring.runCost(child, bend);
        }
        for (int bend = spring.now.offs[child] + 1; bend <= off; bend++) {
            sum += spring.runCost(child, bend);
        }
        return sum;
    }

    private int ownedAtEnd(int child, int[] plan) {
        int memory = spring.memoryOf(child, spring.now.ons[child], spring.now.offs[child], plan);
        return spring.owned(memory, LAST);
    }

    private int endsOf(int who) {
        int all = 0;
        for (int child = 0; child < CHILDREN; child++) {
            if ((who >> child & 1) != 0) {
                all |= ends[child];
            }
        }
        return all;
    }

    private int whoHave(int lesson, int[] plan) {
        int who = 0;
        for (int child = 0; child < spring.now.childCount; child++) {
            if ((ownedAtEnd(child, plan) >> lesson & 1) != 0) {
                who |= 1 << child;
            }
        }
        return who;
    }

    private void draw(int seed, int water) {
        int z = seed;
        for (int bend = 0; bend < BENDS; bend++) {
            z = z * 1103515245 + 12345;
            draft[bend] = (z >>> 11) % 10 < water ? NONE : spring.now.plan[bend];
        }
    }

    private static int commonDivisor(int a, int n) {
        for (int d = n; d > 1; d--) {
            if (a % d == 0 && n % d == 0) {
                return d;
            }
        }
        return 1;
    }

    private static int bendsWithLesson(int[] plan) {
        int many = 0;
        for (int bend = 0; bend < BENDS; bend++) {
            many = plan[bend] == NONE ? many : many + 1;
        }
        return many;
    }

    // ---- kinds of lessons: LESSON, and those under it

    private static class Kind {
        int times(int number) {
            return 1;
        }

        boolean keeps(int number, int d) {
            return true;
        }

        int value(int number) {
            return 10 + number;
        }
    }

    private static class LongKind extends Kind {
        int times(int number) {
            return super.times(number) + number % 3;
        }

        int value(int number) {
            return 2 * super.value(number);
        }
    }

    private static class LightKind extends Kind {
        boolean keeps(int number, int d) {
            return d <= number;
        }

        int value(int number) {
            return super.value(number) - 5;
        }
    }

    private static final class HardKind extends LongKind {
        int times(int number) {
            return super.times(number) + 1;
        }

        boolean keeps(int number, int d) {
            return super.keeps(number, d) && d <= 4;
        }

        int value(int number) {
            return super.value(number) + number;
        }
    }

    private static final class SongKind extends LightKind {
        int times(int number) {
            return super.times(number) + number % 2;
        }

        boolean keeps(int number, int d) {
            return super.keeps(number, d) || d % 2 == 0;
        }

        int value(int number) {
            return super.value(number) / 2;
        }
    }

    private static final class ProofKind extends LongKind {
        int value(int number) {
            return super.value(number) + 7;
        }
    }

    /** All that an image keeps, so that the image is a second one of these. */
    private static final class Board {
        int lessonCount;
        int childCount;
        int rule;
        final int[] kinds = new int[LESSONS];
        final int[] numbers = new int[LESSONS];
        final int[] needs = new int[LESSONS];
        final int[] ons = new int[CHILDREN];
        final int[] offs = new int[CHILDREN];
        final int[] ages = new int[CHILDREN];
        final int[] plan = new int[BENDS];
        final int[] other = new int[BENDS];

        Board() {
            Arrays.fill(plan, NONE);
            Arrays.fill(other, NONE);
        }

        int addLesson(int kind, int number, int need) {
            kinds[lessonCount] = kind;
            numbers[lessonCount] = number;
            needs[lessonCount] = need;
            lessonCount++;
            return lessonCount - 1;
        }

        int addChild(int on, int off, int age) {
            ons[childCount] = on;
            offs[childCount] = off;
            ages[childCount] = age;
            childCount++;
            return childCount - 1;
        }

        void become(Board like) {
            lessonCount = like.lessonCount;
            childCount = like.childCount;
            rule = like.rule;
            System.arraycopy(like.kinds, 0, kinds, 0, LESSONS);
            System.arraycopy(like.numbers, 0, numbers, 0, LESSONS);
            System.arraycopy(like.needs, 0, needs, 0, LESSONS);
            System.arraycopy(like.ons, 0, ons, 0, CHILDREN);
            System.arraycopy(like.offs, 0, offs, 0, CHILDREN);
            System.arraycopy(like.ages, 0, ages, 0, CHILDREN);
            System.arraycopy(like.plan, 0, plan, 0, BENDS);
            System.arraycopy(like.other, 0, other, 0, BENDS);
        }
    }

    /** A text that has been read: its three E, each with its signs behind what they join. */
    private static final class Text {
        // What is not below 0 is a number; names come first, so that their places in a scene follow from them.
        static final int BEND = -1, CHILD = -2, LESSON = -3, KNOWN = -4, AGE = -5, OFTEN = -6, NAMES = 6;
        static final int OR = -7, AND = -8, NOT = -9, LESS = -10, SAME = -11;
        static final int PLUS = -12, MINUS = -13, TIMES = -14, NEGATE = -15;
        static final int OPEN = -16, CLOSE = -17, SEMICOLON = -18, HEARS = -19, WORTH = -20, RUNS = -21;
        static final int END = -22, WRONG = -23;

        final int[] hears;
        final int[] worth;
        final int[] runs;

        Text(int[] hears, int[] worth, int[] runs) {
            this.hears = hears;
            this.worth = worth;
            this.runs = runs;
        }
    }

    /** Reads the tape. Where a part can't be read, the token that can't stand there is left as the one at hand. */
    private static final class Reader {
        final int[] tape = new int[TAPE];
        int size;
        int start;
        private int place;
        private int token;
        private final int[] code = new int[TAPE];
        private int used;

        Text read() {
            place = 0;
            advance();
            int[] hears = section(Text.HEARS);
            int[] worth = hears == null ? null : section(Text.WORTH);
            int[] runs = worth == null ? null : section(Text.RUNS);
            size = 0;
            return runs == null || token != Text.END ? null : new Text(hears, worth, runs);
        }

        private int[] section(int key) {
            used = 0;
            if (token != key) {
                return null;
            }
            advance();
            if (!either(0) || token != Text.SEMICOLON) {
                return null;
            }
            advance();
            return Arrays.copyOf(code, used);
        }

        private boolean either(int open) {
            if (!both(open)) {
                return false;
            }
            for (int k = 0; k < TAPE && token == Text.OR; k++) {
                advance();
                if (!both(open)) {
                    return false;
                }
                write(Text.OR);
            }
            return true;
        }

        private boolean both(int open) {
            if (!denied(open)) {
                return false;
            }
            for (int k = 0; k < TAPE && token == Text.AND; k++) {
                advance();
                if (!denied(open)) {
                    return false;
                }
                write(Text.AND);
            }
            return true;
        }

        private boolean denied(int open) {
            if (token != Text.NOT) {
                return compared(open);
            }
            if (open >= DEEPEST) {
                return false;
            }
            advance();
            if (!denied(open + 1)) {
                return false;
            }
            write(Text.NOT);
            return true;
        }

        private boolean compared(int open) {
            if (!sum(open)) {
                return false;
            }
            if (token != Text.LESS && token != Text.SAME) {
                return true;
            }
            int sign = token;
            advance();
            if (!sum(open)) {
                return false;
            }
            write(sign);
            return true;
        }

        private boolean sum(int open) {
            if (!term(open)) {
                return false;
            }
            for (int k = 0; k < TAPE && (token == Text.PLUS || token == Text.MINUS); k++) {
                int sign = token;
                advance();
                if (!term(open)) {
                    return false;
                }
                write(sign);
            }
            return true;
        }

        private boolean term(int open) {
            if (!one(open)) {
                return false;
            }
            for (int k = 0; k < TAPE && token == Text.TIMES; k++) {
                advance();
                if (!one(open)) {
                    return false;
                }
                write(Text.TIMES);
            }
            return true;
        }

        private boolean one(int open) {
            if (token >= Text.OFTEN) {
                write(token);
                advance();
                return true;
            }
            if (token == Text.MINUS && open < DEEPEST) {
                advance();
                if (!one(open + 1)) {
                    return false;
                }
                write(Text.NEGATE);
                return true;
            }
            if (token == Text.OPEN && open < DEEPEST) {
                advance();
                if (!either(open + 1) || token != Text.CLOSE) {
                    return false;
                }
                advance();
                return true;
            }
            return false;
        }

        private void write(int sign) {
            // A sign is written once for a token, so there is room; the test keeps the index safe by itself.
            if (used < code.length) {
                code[used] = sign;
                used++;
            }
        }

        private void advance() {
            while (place < size && (tape[place] == ' ' || tape[place] == '\n')) {
                place++;
            }
            start = place;
            if (place >= size) {
                token = Text.END;
            } else if (isDigit(tape[place])) {
                token = number();
            } else if (isLetter(tape[place])) {
                token = word();
            } else {
                token = sign(tape[place]);
                place++;
            }
        }

        private int number() {
            int value = 0;
            while (place < size && isDigit(tape[place])) {
                value = value * 10 + tape[place] - '0';
                place++;
            }
            return place - start > 4 ? Text.WRONG : value;
        }

        private int word() {
            while (place < size && isLetter(tape[place])) {
                place++;
            }
            if (reads("bend")) {
                return Text.BEND;
            } else if (reads("child")) {
                return Text.CHILD;
            } else if (reads("lesson")) {
                return Text.LESSON;
            } else if (reads("known")) {
                return Text.KNOWN;
            } else if (reads("age")) {
                return Text.AGE;
            } else if (reads("often")) {
                return Text.OFTEN;
            } else if (reads("or")) {
                return Text.OR;
            } else if (reads("and")) {
                return Text.AND;
            } else if (reads("not")) {
                return Text.NOT;
            } else if (reads("hears")) {
                return Text.HEARS;
            } else if (reads("worth")) {
                return Text.WORTH;
            }
            return reads("runs") ? Text.RUNS : Text.WRONG;
        }

        private boolean reads(String word) {
            if (place - start != word.length()) {
                return false;
            }
            for (int k = 0; k < word.length(); k++) {
                if (tape[start + k] != word.charAt(k)) {
                    return false;
                }
            }
            return true;
        }

        private static int sign(int letter) {
            switch (letter) {
                case '(':
                    return Text.OPEN;
                case ')':
                    return Text.CLOSE;
                case ';':
                    return Text.SEMICOLON;
                case '+':
                    return Text.PLUS;
                case '-':
                    return Text.MINUS;
                case '*':
                    return Text.TIMES;
                case '<':
                    return Text.LESS;
                case '=':
                    return Text.SAME;
                default:
                    return Text.WRONG;
            }
        }

        private static boolean isDigit(int letter) {
            return letter >= '0' && letter <= '9';
        }

        private static boolean isLetter(int letter) {
            return letter >= 'a' && letter <= 'z';
        }
    }

    /**
     * A spring as it goes for one child. What the child carries is one int, its memory: for each lesson three bits
     * of how often it was heard and, above all of these, three bits of the bend of the latest understanding and 1.
     */
    private static final class Spring {
        private static final int WIDTH = 3, MASK = 7, UPPER = WIDTH * LESSONS, BOUND = 99;

        final Board now = new Board();
        final Text[] texts = new Text[TEXTS];
        int textCount;
        private final Kind[] kinds = new Kind[KINDS];
        private final int[] scene = new int[Text.NAMES];
        private final int[] stack = new int[TAPE];
        private final Text first = new Text(new int[] {1}, new int[] {0}, new int[] {1});

        Spring() {
            kinds[0] = new Kind();
            kinds[1] = new LongKind();
            kinds[2] = new LightKind();
            kinds[3] = new HardKind();
            kinds[4] = new SongKind();
            kinds[5] = new ProofKind();
            texts[0] = first;
            textCount = 1;
        }

        static int timesHeard(int memory, int lesson) {
            return memory >> WIDTH * lesson & MASK;
        }

        static int lastUnderstood(int memory, int lesson) {
            return (memory >> UPPER + WIDTH * lesson & MASK) - 1;
        }

        Kind kindOf(int lesson) {
            return kinds[now.kinds[lesson]];
        }

        int owned(int memory, int bend) {
            int bits = 0;
            for (int lesson = 0; lesson < now.lessonCount; lesson++) {
                int last = lastUnderstood(memory, lesson);
                if (last >= 0 && kindOf(lesson).keeps(now.numbers[lesson], bend - last)) {
                    bits |= 1 << lesson;
                }
            }
            return bits;
        }

        boolean hears(int child, int bend, int lesson, int known, int often) {
            stage(child, bend, lesson, known, often);
            return worked(ruleText().hears) != 0;
        }

        int gain(int child, int lesson, int known, int often) {
            stage(child, LAST, lesson, known, often);
            int worth = Math.max(-BOUND, Math.min(BOUND, worked(ruleText().worth)));
            return Math.max(0, kindOf(lesson).value(now.numbers[lesson]) + worth);
        }

        int runCost(int child, int bend) {
            stage(child, bend, 0, 0, 0);
            return Math.max(0, Math.min(BOUND, worked(ruleText().runs)));
        }

        int listened(int memory, int bend, int lesson) {
            int then = memory + (1 << WIDTH * lesson);
            int owned = owned(then, bend);
            int needs = now.needs[lesson];
            boolean often = timesHeard(then, lesson) >= kindOf(lesson).times(now.numbers[lesson]);
            if (!often || (owned & needs) != needs || (owned >> lesson & 1) != 0) {
                return then;
            }
            int at = UPPER + WIDTH * lesson;
            return then & ~(MASK << at) | bend + 1 << at;
        }

        int memoryOf(int child, int on, int off, int[] plan) {
            int memory = 0;
            for (int bend = on; bend <= off; bend++) {
                int lesson = plan[bend];
                if (lesson == NONE) {
                    continue;
                }
                int known = Integer.bitCount(owned(memory, bend));
                if (hears(child, bend, lesson, known, timesHeard(memory, lesson))) {
                    memory = listened(memory, bend, lesson);
                }
            }
            return memory;
        }

        int ownedBehind(int bend, int child, int on, int off) {
            return owned(memoryOf(child, on, Math.min(off, bend), now.plan), bend);
        }

        int pointsOf(int child, int[] plan) {
            int memory = memoryOf(child, now.ons[child], now.offs[child], plan);
            int owned = owned(memory, LAST);
            int sum = 0;
            for (int lesson = 0; lesson < now.lessonCount; lesson++) {
                if ((owned >> lesson & 1) != 0) {
                    sum += gain(child, lesson, Integer.bitCount(owned), timesHeard(memory, lesson));
                }
            }
            return sum;
        }

        int firstUnlike(int[] bits, int child, int on, int off) {
            for (int bend = 0; bend < BENDS; bend++) {
                if (ownedBehind(bend, child, on, off) != bits[bend]) {
                    return bend;
                }
            }
            return NONE;
        }

        private Text ruleText() {
            Text rule = texts[now.rule];
            return rule == null ? first : rule;
        }

        private void stage(int child, int bend, int lesson, int known, int often) {
            scene[Text.BEND - Text.BEND] = bend;
            scene[Text.BEND - Text.CHILD] = child;
            scene[Text.BEND - Text.LESSON] = lesson;
            scene[Text.BEND - Text.KNOWN] = known;
            scene[Text.BEND - Text.AGE] = now.ages[child];
            scene[Text.BEND - Text.OFTEN] = often;
        }

        private int worked(int[] code) {
            int top = 0;
            for (int k = 0; k < code.length && top < stack.length; k++) {
                int sign = code[k];
                if (sign >= Text.OFTEN) {
                    stack[top] = sign >= 0 ? sign : scene[Text.BEND - sign];
                    top++;
                } else if (sign == Text.NOT && top > 0) {
                    stack[top - 1] = stack[top - 1] == 0 ? 1 : 0;
                } else if (sign == Text.NEGATE && top > 0) {
                    stack[top - 1] = -stack[top - 1];
                } else if (top > 1) {
                    top--;
                    stack[top - 1] = joined(sign, stack[top - 1], stack[top]);
                }
            }
            return top > 0 ? stack[top - 1] : 0;
        }

        private static int joined(int sign, int a, int b) {
            switch (sign) {
                case Text.OR:
                    return a != 0 || b != 0 ? 1 : 0;
                case Text.AND:
                    return a != 0 && b != 0 ? 1 : 0;
                case Text.LESS:
                    return a < b ? 1 : 0;
                case Text.SAME:
                    return a == b ? 1 : 0;
                case Text.PLUS:
                    return a + b;
                case Text.MINUS:
                    return a - b;
                default:
                    return a * b;
            }
        }
    }

    /**
     * Looks for BEST, bend by bend. What the rule tells depends on few small numbers, so each answer of it is kept
     * while one search lasts; and what was found is kept till a call changes what it hangs on.
     */
    private static final class Search {
        private static final int OFTEN = BENDS + 1, KNOWN = LESSONS + 1, UNKNOWN = -1;

        final int[] row = new int[BENDS];
        int most;
        private boolean found;
        private final int[] tried = new int[BENDS];
        private final int[] memories = new int[(BENDS + 1) * CHILDREN];
        private final int[] hearing = new int[BENDS * CHILDREN * LESSONS * KNOWN * OFTEN];
        private final int[] gains = new int[CHILDREN * LESSONS * KNOWN * OFTEN];

        void forget() {
            found = false;
        }

        void find(Spring spring) {
            if (found) {
                return;
            }
            Arrays.fill(hearing, UNKNOWN);
            Arrays.fill(gains, UNKNOWN);
            Arrays.fill(memories, 0);
            most = NONE;
            visit(spring, 0);
            found = true;
        }

        private void visit(Spring spring, int bend) {
            if (bend >= BENDS) {
                weigh(spring);
                return;
            }
            for (int lesson = NONE; lesson < spring.now.lessonCount; lesson++) {
                // A lesson that nobody hears is as none, and none has been tried ahead of it.
                if (step(spring, bend, lesson) || lesson == NONE) {
                    tried[bend] = lesson;
                    visit(spring, bend + 1);
                }
            }
        }

        private boolean step(Spring spring, int bend, int lesson) {
            boolean heard = false;
            for (int child = 0; child < spring.now.childCount; child++) {
                int memory = memories[bend * CHILDREN + child];
                int then = memory;
                boolean aboard = bend >= spring.now.ons[child] && bend <= spring.now.offs[child];
                if (lesson != NONE && aboard && listens(spring, child, bend, lesson, memory)) {
                    then = spring.listened(memory, bend, lesson);
                    heard = true;
                }
                memories[(bend + 1) * CHILDREN + child] = then;
            }
            return heard;
        }

        private boolean listens(Spring spring, int child, int bend, int lesson, int memory) {
            int known = Integer.bitCount(spring.owned(memory, bend));
            int often = Spring.timesHeard(memory, lesson);
            int at = (((bend * CHILDREN + child) * LESSONS + lesson) * KNOWN + known) * OFTEN + often;
            if (hearing[at] == UNKNOWN) {
                hearing[at] = spring.hears(child, bend, lesson, known, often) ? 1 : 0;
            }
            return hearing[at] == 1;
        }

        private void weigh(Spring spring) {
            int sum = 0;
            for (int child = 0; child < spring.now.childCount; child++) {
                int memory = memories[BENDS * CHILDREN + child];
                int owned = memory == 0 ? 0 : spring.owned(memory, LAST);
                int known = Integer.bitCount(owned);
                for (int lesson = 0; lesson < spring.now.lessonCount; lesson++) {
                    if ((owned >> lesson & 1) == 0) {
                        continue;
                    }
                    int often = Spring.timesHeard(memory, lesson);
                    int at = ((child * LESSONS + lesson) * KNOWN + known) * OFTEN + often;
                    if (gains[at] == UNKNOWN) {
                        gains[at] = spring.gain(child, lesson, known, often);
                    }
                    sum += gains[at];
                }
            }
            if (sum > most) {
                most = sum;
                System.arraycopy(tried, 0, row, 0, BENDS);
            }
        }
    }
}
