import java.util.ArrayList;
import java.util.List;
import java.util.Random;

/**
 * Runs of random calls, answered by the class and by a model that works everything out anew from the document's words
 * in the slowest way: springs by rows of maps of bends, texts by trees, BEST by each plan whole.
 */
public final class ModelTest {
    private static final int RUNS = 1500, BEST_RUNS = 200, RULED_RUNS = 400;

    public static void main(String[] args) {
        int wrong = 0;
        for (int seed = 0; seed < RUNS + BEST_RUNS && wrong < 5; seed++) {
            wrong += differs(seed, seed >= RUNS) ? 1 : 0;
        }
        for (int seed = 0; seed < RULED_RUNS && wrong < 5; seed++) {
            wrong += bestDiffers(seed) ? 1 : 0;
        }
        System.out.println(wrong == 0 ? "class and model answer alike" : wrong + " runs differ");
        if (wrong != 0) {
            System.exit(1);
        }
    }

    private static boolean differs(int seed, boolean withBest) {
        Random random = new Random(seed);
        SchoolOnRaft x = new SchoolOnRaft();
        Model m = new Model();
        List<String> log = new ArrayList<>();
        begin(random, x, m, log);
        int calls = withBest ? 120 : 480;
        for (int k = 0; k < calls; k++) {
            long[] answers = call(random, x, m, log, withBest);
            if (answers[0] != answers[1]) {
                System.out.println("run " + seed + ", call " + k + ": " + log.get(log.size() - 1) + " answered " + answers[0]
                    + ", the model " + answers[1] + "; ahead: " + log.subList(Math.max(0, log.size() - 40), log.size() - 1));
                return true;
            }
        }
        return false;
    }

    /** BEST by rules that hang on what is known and how often it was heard: all of the class's short cuts lie here. */
    private static boolean bestDiffers(int seed) {
        Random r = new Random(seed);
        SchoolOnRaft x = new SchoolOnRaft();
        Model m = new Model();
        List<String> log = new ArrayList<>();
        begin(r, x, m, log);
        String[] hears = {"known<2 or 1<often", "known=often or bend=child", "not known=lesson+1", "often<known+1", "bend-known-often+1",
            "known*often+bend<4", "age-9+known*often", "1<bend or often+known", "not often=known or child=lesson"};
        String[] worth = {"often*5-known*7", "known*often*4-30", "9-often*often", "(1<often)*20-(known=2)*35", "age*(often=known)", "lesson*often"};
        String text = "hears " + hears[r.nextInt(hears.length)] + ";worth " + worth[r.nextInt(worth.length)] + ";runs 1;";
        for (int k = 0; k < text.length(); k++) {
            x.feed(text.charAt(k));
            m.feed(text.charAt(k));
        }
        boolean differs = x.text() != m.text() || x.force(1) != m.force(1);
        int[] best = m.bestPlan();
        for (int what = 0; what <= 6; what++) {
            differs |= x.best(what) != (what == 0 ? m.pointsOfAll(best) : best[what - 1]);
        }
        if (differs) {
            System.out.println("BEST of ruled run " + seed + " differs: " + text + log);
        }
        return differs;
    }

    /** A run that begins with nothing would mostly ask about nothing. */
    private static void begin(Random r, SchoolOnRaft x, Model m, List<String> log) {
        int lessons = r.nextInt(5);
        for (int k = 0; k < lessons; k++) {
            int[] of = {r.nextInt(6), r.nextInt(10), r.nextInt(2) == 0 ? 0 : r.nextInt(1 << k)};
            log.add("lesson(" + of[0] + ", " + of[1] + ", " + of[2] + ")");
            x.lesson(of[0], of[1], of[2]);
            m.lesson(of[0], of[1], of[2]);
        }
        int children = r.nextInt(7);
        for (int k = 0; k < children; k++) {
            int[] of = {10 * r.nextInt(3) + 2 + r.nextInt(4), 5 + r.nextInt(10)};
            log.add("child(" + of[0] + ", " + of[1] + ")");
            x.child(of[0], of[1]);
            m.child(of[0], of[1]);
        }
        for (int bend = 0; bend < 12 && lessons > 0; bend++) {
            int lesson = r.nextInt(lessons);
            log.add("give(" + bend / 6 + ", " + bend % 6 + ", " + lesson + ")");
            x.give(bend / 6, bend % 6, lesson);
            m.give(bend / 6, bend % 6, lesson);
        }
    }

    /** Mostly a number from 0 to below n, now and then one that is none such. */
    private static int some(Random r, int n) {
        int dice = r.nextInt(40);
        if (dice == 0) {
            return -1 - r.nextInt(3);
        }
        if (dice == 1) {
            return n + r.nextInt(3);
        }
        if (dice == 2) {
            return r.nextInt();
        }
        return r.nextInt(Math.max(1, n));
    }

    private static String randomText(Random r) {
        StringBuilder b = new StringBuilder();
        for (String key : new String[] {"hears", "worth", "runs"}) {
            b.append(key).append(' ').append(randomE(r, key.equals("hears") ? 3 : 2)).append(';');
        }
        if (r.nextInt(4) == 0 && b.length() > 0) {
            int at = r.nextInt(b.length());
            String signs = "();+-*<=0123456789abcdefghoinrt \n#A";
            switch (r.nextInt(3)) {
                case 0:
                    b.deleteCharAt(at);
                    break;
                case 1:
                    b.insert(at, signs.charAt(r.nextInt(signs.length())));
                    break;
                default:
                    b.setCharAt(at, signs.charAt(r.nextInt(signs.length())));
            }
        }
        return b.toString();
    }

    private static String randomE(Random r, int depth) {
        String[] names = {"bend", "child", "lesson", "known", "age", "often"};
        if (depth == 0 || r.nextInt(5) == 0) {
            return r.nextBoolean() ? names[r.nextInt(6)] : String.valueOf(r.nextInt(8) == 0 ? r.nextInt(20000) : r.nextInt(12));
        }
        switch (r.nextInt(9)) {
            case 0:
                return "not " + randomE(r, depth - 1);
            case 1:
                return "-" + randomE(r, depth - 1);
            case 2:
                return "(" + randomE(r, depth - 1) + ")";
            default:
                String[] signs = {"+", "-", "*", "<", "=", " or ", " and ", "+", "-"};
                return randomE(r, depth - 1) + signs[r.nextInt(signs.length)] + randomE(r, depth - 1);
        }
    }

    private static long[] call(Random r, SchoolOnRaft x, Model m, List<String> log, boolean withBest) {
        int dice = r.nextInt(withBest ? 34 : 32);
        int a;
        int b;
        int c;
        int d;
        int e;
        switch (dice) {
            case 0:
                a = some(r, 6);
                b = some(r, 10);
                c = r.nextInt(2) == 0 ? 0 : some(r, 16);
                log.add("lesson(" + a + ", " + b + ", " + c + ")");
                return new long[] {x.lesson(a, b, c), m.lesson(a, b, c)};
            case 1:
                a = r.nextInt(2) == 0 ? 10 * r.nextInt(3) + 3 + r.nextInt(3) : some(r, 60);
                b = 5 + some(r, 10);
                log.add("child(" + a + ", " + b + ")");
                return new long[] {x.child(a, b), m.child(a, b)};
            case 2:
                a = some(r, 5);
                b = some(r, m.children.size());
                c = a == 4 ? 5 + some(r, 10) : some(r, 7);
                log.add("set(" + a + ", " + b + ", " + c + ")");
                return new long[] {x.set(a, b, c), m.set(a, b, c)};
            case 3:
                a = some(r, 6);
                b = some(r, 8);
                log.add("told(" + a + ", " + b + ")");
                return new long[] {x.told(a, b), m.told(a, b)};
            case 4: case 5: case 6: case 7:
                a = some(r, 2);
                b = some(r, 6);
                c = some(r, m.lessons.size() + 1) - (r.nextInt(8) == 0 ? 1 : 0);
                log.add("give(" + a + ", " + b + ", " + c + ")");
                return new long[] {x.give(a, b, c), m.give(a, b, c)};
            case 8:
                a = some(r, 2);
                b = some(r, 6);
                log.add("given(" + a + ", " + b + ")");
                return new long[] {x.given(a, b), m.given(a, b)};
            case 9:
                if (r.nextInt(8) == 0) {
                    a = some(r, 256);
                    log.add("feed(" + a + ")");
                    return new long[] {x.feed(a), m.feed(a)};
                }
                return feedText(r, x, m, log);
            case 10:
                a = some(r, m.texts.size());
                log.add("force(" + a + ")");
                return new long[] {x.force(a), m.force(a)};
            case 11:
                a = some(r, m.children.size());
                b = some(r, 6);
                log.add("has(" + a + ", " + b + ")");
                return new long[] {x.has(a, b), m.has(a, b)};
            case 12:
                a = some(r, m.children.size());
                b = some(r, m.lessons.size());
                c = some(r, 2);
                log.add("heard(" + a + ", " + b + ", " + c + ")");
                return new long[] {x.heard(a, b, c), m.heard(a, b, c)};
            case 13:
                a = some(r, m.children.size() + 1) - 1;
                log.add("points(" + a + ")");
                return new long[] {x.points(a), m.points(a)};
            case 14: case 15:
                a = some(r, m.children.size());
                b = some(r, 1 << m.lessons.size());
                c = some(r, 3);
                log.add("run(" + a + ", " + b + ", " + c + ")");
                return new long[] {x.run(a, b, c), m.run(a, b, c)};
            case 16:
                a = some(r, m.lessons.size());
                b = some(r, 2);
                log.add("twice(" + a + ", " + b + ")");
                return new long[] {x.twice(a, b), m.twice(a, b)};
            case 17:
                a = some(r, m.children.size());
                b = some(r, 7) - 1;
                log.add("change(" + a + ", " + b + ")");
                return new long[] {x.change(a, b), m.change(a, b)};
            case 18:
                a = some(r, m.children.size());
                b = some(r, 4);
                if (r.nextInt(2) == 0) {
                    truth(r, x, m, log, a, b);
                }
                log.add("exam(" + a + ", " + b + ")");
                return new long[] {x.exam(a, b), m.exam(a, b)};
            case 19:
                a = some(r, m.children.size());
                b = some(r, 4);
                c = some(r, 2);
                if (r.nextInt(2) == 0) {
                    truth(r, x, m, log, a, b);
                }
                log.add("aboard(" + a + ", " + b + ", " + c + ")");
                return new long[] {x.aboard(a, b, c), m.aboard(a, b, c)};
            case 20:
                a = some(r, 3);
                log.add("together(" + a + ")");
                return new long[] {x.together(a), m.together(a)};
            case 21:
                a = some(r, m.lessons.size());
                log.add("known(" + a + ")");
                return new long[] {x.known(a), m.known(a)};
            case 22:
                a = r.nextInt();
                b = some(r, 11);
                log.add("drawn(" + a + ", " + b + ")");
                return new long[] {x.drawn(a, b), m.drawn(a, b)};
            case 23:
                a = r.nextInt(3) == 0 ? Integer.MAX_VALUE - r.nextInt(15) : r.nextInt();
                b = some(r, 21);
                c = some(r, 11);
                d = some(r, m.lessons.size());
                e = some(r, 2);
                log.add("chance(" + a + ", " + b + ", " + c + ", " + d + ", " + e + ")");
                return new long[] {x.chance(a, b, c, d, e), m.chance(a, b, c, d, e)};
            case 24:
                if (r.nextInt(4) == 0) {
                    log.add("image()");
                    return new long[] {x.image(), m.image()};
                }
                log.add("back()");
                return new long[] {x.back(), m.back()};
            case 25:
                a = some(r, 6);
                log.add("count(" + a + ")");
                return new long[] {x.count(a), m.count(a)};
            case 26:
                a = some(r, 4);
                b = some(r, 4) - 1;
                c = r.nextInt(3) == 0 ? 6 : some(r, 41);
                log.add("sheet(" + a + ", " + b + ", " + c + ")");
                return new long[] {x.sheet(a, b, c), m.sheet(a, b, c)};
            case 27: case 28:
                a = some(r, 4);
                b = some(r, 8);
                c = r.nextInt(6) == 0 ? r.nextInt() : r.nextInt(60);
                log.add("cell(" + a + ", " + b + ", " + c + ")");
                return new long[] {x.cell(a, b, c), m.cell(a, b, c)};
            case 29:
                a = some(r, 4);
                b = some(r, 8);
                c = some(r, 4);
                d = some(r, 8);
                e = some(r, 8);
                log.add("copy(" + a + ", " + b + ", " + c + ", " + d + ", " + e + ")");
                return new long[] {x.copy(a, b, c, d, e), m.copy(a, b, c, d, e)};
            case 30:
                a = some(r, 4);
                b = some(r, 3);
                c = some(r, 6);
                d = some(r, 7);
                log.add("children(" + a + ", " + b + ", " + c + ", " + d + ")");
                return new long[] {x.children(a, b, c, d), m.childrenBy(a, b, c, d)};
            case 31:
                a = some(r, m.lessons.size());
                b = some(r, 6);
                log.add("taken(" + a + ", " + b + ")");
                return new long[] {x.taken(a, b), m.taken(a, b)};
            case 32:
                log.add("lay()");
                return new long[] {x.lay(), m.lay()};
            default:
                a = some(r, 7);
                log.add("best(" + a + ")");
                return new long[] {x.best(a), m.best(a)};
        }
    }

    /** Lays what a child truly has on a sheet (now and then with one number otherwise), as chance alone seldom would. */
    private static void truth(Random r, SchoolOnRaft x, Model m, List<String> log, int child, int sheet) {
        int sort = r.nextInt(3);
        log.add("truth of " + child + " on " + sheet + " of sort " + sort);
        x.sheet(sheet, sort, 6);
        m.sheet(sheet, sort, 6);
        int odd = r.nextInt(12);
        for (int bend = 0; bend < 6; bend++) {
            int v = m.has(child, bend) ^ (bend == odd ? 1 : 0);
            x.cell(sheet, bend, v);
            m.cell(sheet, bend, v);
        }
    }

    private static long[] feedText(Random r, SchoolOnRaft x, Model m, List<String> log) {
        String text = randomText(r);
        for (int k = 0; k < text.length(); k++) {
            long[] answers = {x.feed(text.charAt(k)), m.feed(text.charAt(k))};
            if (answers[0] != answers[1]) {
                log.add("feed(" + (int) text.charAt(k) + ")");
                return answers;
            }
        }
        log.add("text() of " + text);
        return new long[] {x.text(), m.text()};
    }

    // ---- the model

    private static final class Lesson implements Cloneable {
        int kind;
        int number;
        int needs;

        int times() {
            switch (kind) {
                case 1: case 5:
                    return 1 + number % 3;
                case 3:
                    return 2 + number % 3;
                case 4:
                    return number % 2 == 1 ? 2 : 1;
                default:
                    return 1;
            }
        }

        boolean keeps(int d) {
            return kind == 2 ? d <= number : kind == 3 ? d <= 4 : kind == 4 ? d <= number || d % 2 == 0 : true;
        }

        int points() {
            int[] all = {10 + number, 20 + 2 * number, 5 + number, 20 + 3 * number, (5 + number) / 2, 27 + 2 * number};
            return all[kind];
        }

        Lesson twin() {
            Lesson l = new Lesson();
            l.kind = kind;
            l.number = number;
            l.needs = needs;
            return l;
        }
    }

    private static final class Child {
        int on;
        int off;
        int age;

        Child(int on, int off, int age) {
            this.on = on;
            this.off = off;
            this.age = age;
        }
    }

    private interface Node {
        int value(int bend, int child, int lesson, int known, int age, int often);
    }

    private static final class Fault extends RuntimeException {
        final int place;

        Fault(int place) {
            this.place = place;
        }
    }

    /** Tokens first, up to the first byte that begins none; then trees. */
    private static final class Parser {
        final List<String> tokens = new ArrayList<>();
        final List<Integer> places = new ArrayList<>();
        int at = 0;
        int open = 0;

        Parser(String text) {
            java.util.regex.Matcher matcher = java.util.regex.Pattern.compile("[ \n]*([a-z]+|[0-9]+|[^ \n])", java.util.regex.Pattern.DOTALL)
                .matcher(text);
            while (matcher.find()) {
                tokens.add(matcher.group(1));
                places.add(matcher.start(1));
            }
            tokens.add("");
            places.add(text.length());
        }

        Node[] whole() {
            Node[] parts = new Node[3];
            String[] keys = {"hears", "worth", "runs"};
            for (int k = 0; k < 3; k++) {
                need(keys[k]);
                parts[k] = e();
                need(";");
            }
            need("");
            return parts;
        }

        boolean next(String token) {
            return tokens.get(at).equals(token);
        }

        void need(String token) {
            if (!next(token)) {
                throw new Fault(places.get(at));
            }
            at++;
        }

        void opening() {
            if (open == 5) {
                throw new Fault(places.get(at));
            }
            open++;
            at++;
        }

        Node e() {
            Node left = and();
            while (next("or")) {
                at++;
                Node l = left;
                Node r = and();
                left = (b, c, s, k, a, o) -> l.value(b, c, s, k, a, o) != 0 | r.value(b, c, s, k, a, o) != 0 ? 1 : 0;
            }
            return left;
        }

        Node and() {
            Node left = not();
            while (next("and")) {
                at++;
                Node l = left;
                Node r = not();
                left = (b, c, s, k, a, o) -> l.value(b, c, s, k, a, o) != 0 & r.value(b, c, s, k, a, o) != 0 ? 1 : 0;
            }
            return left;
        }

        Node not() {
            if (next("not")) {
                opening();
                Node n = not();
                open--;
                return (b, c, s, k, a, o) -> n.value(b, c, s, k, a, o) == 0 ? 1 : 0;
            }
            Node l = sum();
            if (next("<")) {
                at++;
                Node r = sum();
                return (b, c, s, k, a, o) -> l.value(b, c, s, k, a, o) < r.value(b, c, s, k, a, o) ? 1 : 0;
            }
            if (next("=")) {
                at++;
                Node r = sum();
                return (b, c, s, k, a, o) -> l.value(b, c, s, k, a, o) == r.value(b, c, s, k, a, o) ? 1 : 0;
            }
            return l;
        }

        Node sum() {
            Node left = term();
            while (next("+") || next("-")) {
                int factor = next("+") ? 1 : -1;
                at++;
                Node l = left;
                Node r = term();
                left = (b, c, s, k, a, o) -> l.value(b, c, s, k, a, o) + factor * r.value(b, c, s, k, a, o);
            }
            return left;
        }

        Node term() {
            Node left = one();
            while (next("*")) {
                at++;
                Node l = left;
                Node r = one();
                left = (b, c, s, k, a, o) -> l.value(b, c, s, k, a, o) * r.value(b, c, s, k, a, o);
            }
            return left;
        }

        Node one() {
            String token = tokens.get(at);
            if (token.matches("[0-9]{1,4}")) {
                at++;
                int n = Integer.parseInt(token);
                return (b, c, s, k, a, o) -> n;
            }
            if (next("-")) {
                opening();
                Node n = one();
                open--;
                return (b, c, s, k, a, o) -> -n.value(b, c, s, k, a, o);
            }
            if (next("(")) {
                opening();
                Node n = e();
                need(")");
                open--;
                return n;
            }
            int name = java.util.Arrays.asList("bend", "child", "lesson", "known", "age", "often").indexOf(token);
            if (name < 0) {
                throw new Fault(places.get(at));
            }
            at++;
            return (b, c, s, k, a, o) -> new int[] {b, c, s, k, a, o}[name];
        }
    }

    /** One child's spring: for each bend the bends at which each lesson was understood last, and how often heard, behind it. */
    private static final class Course {
        final int[][] last = new int[6][4];
        final int[][] often = new int[6][4];
    }

    private static final class Model {
        List<Lesson> lessons = new ArrayList<>();
        List<Child> children = new ArrayList<>();
        int[][] plans = {{-1, -1, -1, -1, -1, -1}, {-1, -1, -1, -1, -1, -1}};
        List<Node[]> texts = new ArrayList<>();
        int rule = 0;
        StringBuilder tape = new StringBuilder();
        Object[] sheets = new Object[4];
        List<Lesson> keptLessons;
        List<Child> keptChildren;
        int[][] keptPlans;
        int keptRule;

        Model() {
            texts.add(new Parser("hears 1 ; worth 0 ; runs 1 ;").whole());
        }

        boolean noLesson(int l) {
            return l < 0 || l >= lessons.size();
        }

        boolean noChild(int c) {
            return c < 0 || c >= children.size();
        }

        static boolean out(int v, int from, int to) {
            return v < from || v > to;
        }

        int lesson(int kind, int number, int needs) {
            if (out(kind, 0, 5) || out(number, 0, 9) || out(needs, 0, (1 << lessons.size()) - 1)) {
                return -2;
            }
            if (lessons.size() == 4) {
                return -4;
            }
            Lesson l = new Lesson();
            l.kind = kind;
            l.number = number;
            l.needs = needs;
            lessons.add(l);
            return lessons.size() - 1;
        }

        int child(int what, int age) {
            for (int on = 0; on < 6; on++) {
                for (int off = on; off < 6; off++) {
                    if (what == 10 * on + off && !out(age, 5, 14)) {
                        if (children.size() == 6) {
                            return -4;
                        }
                        children.add(new Child(on, off, age));
                        return children.size() - 1;
                    }
                }
            }
            return -2;
        }

        int set(int what, int of, int v) {
            if (out(what, 0, 4) || (what < 2 ? noLesson(of) : noChild(of))) {
                return -2;
            }
            int was;
            if (what == 0) {
                was = lessons.get(of).number;
                if (out(v, 0, 9)) {
                    return -2;
                }
                lessons.get(of).number = v;
            } else if (what == 1) {
                was = lessons.get(of).needs;
                if (out(v, 0, (1 << of) - 1)) {
                    return -2;
                }
                lessons.get(of).needs = v;
            } else if (what == 2) {
                was = children.get(of).on;
                if (out(v, 0, children.get(of).off)) {
                    return -2;
                }
                children.get(of).on = v;
            } else if (what == 3) {
                was = children.get(of).off;
                if (out(v, children.get(of).on, 5)) {
                    return -2;
                }
                children.get(of).off = v;
            } else {
                was = children.get(of).age;
                if (out(v, 5, 14)) {
                    return -2;
                }
                children.get(of).age = v;
            }
            return was;
        }

        int told(int of, int what) {
            if (out(what, 0, 7) || (what < 5 ? noLesson(of) : noChild(of))) {
                return -2;
            }
            if (what < 5) {
                Lesson l = lessons.get(of);
                return new int[] {l.kind, l.number, l.needs, l.times(), l.points()}[what];
            }
            Child c = children.get(of);
            return new int[] {c.on, c.off, c.age}[what - 5];
        }

        int give(int raft, int bend, int lesson) {
            if (out(raft, 0, 1) || out(bend, 0, 5) || lesson != -1 && noLesson(lesson)) {
                return -2;
            }
            int was = plans[raft][bend];
            plans[raft][bend] = lesson;
            return was;
        }

        int given(int raft, int bend) {
            return out(raft, 0, 1) || out(bend, 0, 5) ? -2 : plans[raft][bend];
        }

        int feed(int letter) {
            if (out(letter, 0, 255)) {
                return -2;
            }
            if (tape.length() == 160) {
                return -4;
            }
            tape.append((char) letter);
            return tape.length();
        }

        int text() {
            if (texts.size() == 6) {
                return -4;
            }
            String text = tape.toString();
            tape.setLength(0);
            try {
                texts.add(new Parser(text).whole());
            } catch (Fault fault) {
                return -100 - fault.place;
            }
            return texts.size() - 1;
        }

        int force(int text) {
            if (out(text, 0, texts.size() - 1)) {
                return -2;
            }
            int was = rule;
            rule = text;
            return was;
        }

        boolean owns(int lesson, int last, int bend) {
            return last >= 0 && lessons.get(lesson).keeps(bend - last);
        }

        int bits(int[] last, int bend) {
            int bits = 0;
            for (int l = 0; l < lessons.size(); l++) {
                bits |= owns(l, last[l], bend) ? 1 << l : 0;
            }
            return bits;
        }

        Course course(int child, int on, int off, int[] plan) {
            Course course = new Course();
            int[] last = {-1, -1, -1, -1};
            int[] often = new int[4];
            for (int bend = 0; bend < 6; bend++) {
                int l = plan[bend];
                if (l >= 0 && on <= bend && bend <= off) {
                    int had = bits(last, bend);
                    int age = children.get(child).age;
                    if (texts.get(rule)[0].value(bend, child, l, Integer.bitCount(had), age, often[l]) != 0) {
                        often[l]++;
                        boolean all = true;
                        for (int n = 0; n < lessons.size(); n++) {
                            all &= (lessons.get(l).needs >> n & 1) == 0 || (had >> n & 1) == 1;
                        }
                        if (all && often[l] >= lessons.get(l).times() && (had >> l & 1) == 0) {
                            last[l] = bend;
                        }
                    }
                }
                course.last[bend] = last.clone();
                course.often[bend] = often.clone();
            }
            return course;
        }

        Course course(int child, int[] plan) {
            return course(child, children.get(child).on, children.get(child).off, plan);
        }

        int end(int child, int[] plan) {
            return bits(course(child, plan).last[5], 5);
        }

        int has(int child, int bend) {
            return noChild(child) || out(bend, 0, 5) ? -2 : bits(course(child, plans[0]).last[bend], bend);
        }

        int heard(int child, int lesson, int what) {
            if (noChild(child) || noLesson(lesson) || out(what, 0, 1)) {
                return -2;
            }
            Course course = course(child, plans[0]);
            return what == 0 ? course.often[5][lesson] : course.last[5][lesson];
        }

        int pointsOf(int child, int[] plan) {
            Course course = course(child, plan);
            int had = bits(course.last[5], 5);
            int sum = 0;
            for (int l = 0; l < lessons.size(); l++) {
                if ((had >> l & 1) == 1) {
                    int worth = texts.get(rule)[1].value(5, child, l, Integer.bitCount(had), children.get(child).age, course.often[5][l]);
                    worth = worth < -99 ? -99 : worth > 99 ? 99 : worth;
                    int together = lessons.get(l).points() + worth;
                    sum += together < 0 ? 0 : together;
                }
            }
            return sum;
        }

        int pointsOfAll(int[] plan) {
            int sum = 0;
            for (int c = 0; c < children.size(); c++) {
                sum += pointsOf(c, plan);
            }
            return sum;
        }

        int points(int child) {
            return child == -1 ? pointsOfAll(plans[0]) : noChild(child) ? -2 : pointsOf(child, plans[0]);
        }

        int[] bestPlan() {
            int[] best = null;
            int most = 0;
            int base = lessons.size() + 1;
            int all = (int) Math.pow(base, 6);
            for (int code = 0; code < all; code++) {
                int[] plan = new int[6];
                int rest = code;
                for (int bend = 5; bend >= 0; bend--) {
                    plan[bend] = rest % base - 1;
                    rest /= base;
                }
                int points = pointsOfAll(plan);
                if (best == null || points > most) {
                    best = plan;
                    most = points;
                }
            }
            return best;
        }

        int best(int what) {
            if (out(what, 0, 6)) {
                return -2;
            }
            int[] best = bestPlan();
            return what == 0 ? pointsOfAll(best) : best[what - 1];
        }

        int lay() {
            plans[0] = bestPlan();
            return pointsOfAll(plans[0]);
        }

        int run(int child, int wanted, int what) {
            if (noChild(child) || out(wanted, 0, (1 << lessons.size()) - 1) || out(what, 0, 2)) {
                return -2;
            }
            Child c = children.get(child);
            int[] best = {-1, -1, -1};
            for (int on = 5; on >= 0; on--) {
                for (int off = 5; off >= 0; off--) {
                    if (on > c.on || off < c.off || (bits(course(child, on, off, plans[0]).last[5], 5) & wanted) != wanted) {
                        continue;
                    }
                    int cost = 0;
                    for (int bend = 0; bend < 6; bend++) {
                        if (on <= bend && bend <= off && !(c.on <= bend && bend <= c.off)) {
                            int runs = texts.get(rule)[2].value(bend, child, 0, 0, c.age, 0);
                            cost += runs < 0 ? 0 : runs > 99 ? 99 : runs;
                        }
                    }
                    if (best[0] < 0 || cost <= best[0]) {
                        best = new int[] {cost, on, off};
                    }
                }
            }
            return best[what];
        }

        int twice(int lesson, int what) {
            if (noLesson(lesson) || out(what, 0, 1)) {
                return -2;
            }
            int now = pointsOfAll(plans[0]);
            int[] found = {-1, -1};
            for (int bend = 5; bend >= 0; bend--) {
                int[] plan = plans[0].clone();
                plan[bend] = lesson;
                int then = pointsOfAll(plan);
                if (then > now && then >= found[1]) {
                    found = new int[] {bend, then};
                }
            }
            return found[what];
        }

        int changing(int child, int c) {
            int[] plan = plans[1].clone();
            System.arraycopy(plans[0], 0, plan, 0, c + 1);
            return pointsOf(child, plan);
        }

        int change(int child, int bend) {
            if (noChild(child) || bend != -1 && out(bend, children.get(child).on, children.get(child).off)) {
                return -2;
            }
            if (bend != -1) {
                return changing(child, bend);
            }
            int best = children.get(child).off;
            for (int c = best; c >= children.get(child).on; c--) {
                best = changing(child, c) >= changing(child, best) ? c : best;
            }
            return best;
        }

        int refused(int child, int sheet) {
            if (noChild(child) || out(sheet, 0, 3)) {
                return -2;
            }
            return sheets[sheet] == null ? -11 : java.lang.reflect.Array.getLength(sheets[sheet]) != 6 ? -2 : 0;
        }

        int first(int child, int on, int off, int sheet) {
            Course course = course(child, on, off, plans[0]);
            for (int bend = 0; bend < 6; bend++) {
                if (bits(course.last[bend], bend) != java.lang.reflect.Array.getInt(sheets[sheet], bend)) {
                    return bend;
                }
            }
            return -1;
        }

        int exam(int child, int sheet) {
            int refused = refused(child, sheet);
            return refused != 0 ? refused : first(child, children.get(child).on, children.get(child).off, sheet);
        }

        int aboard(int child, int sheet, int what) {
            int refused = refused(child, sheet);
            if (refused != 0) {
                return refused;
            }
            if (out(what, 0, 1)) {
                return -2;
            }
            List<Integer> all = new ArrayList<>();
            for (int both = 0; both < 60; both++) {
                if (both % 10 < 6 && both / 10 <= both % 10 && first(child, both / 10, both % 10, sheet) == -1) {
                    all.add(both);
                }
            }
            return what == 0 ? all.size() : all.isEmpty() ? -1 : all.get(0);
        }

        int union(int who) {
            int bits = 0;
            for (int c = 0; c < children.size(); c++) {
                bits |= (who >> c & 1) == 1 ? end(c, plans[0]) : 0;
            }
            return bits;
        }

        int together(int what) {
            if (out(what, 0, 2)) {
                return -2;
            }
            int all = union(63);
            if (what == 0) {
                return all;
            }
            for (int n = 0; n <= 6; n++) {
                for (int who = 0; who < 1 << children.size(); who++) {
                    if (Integer.bitCount(who) == n && union(who) == all) {
                        return what == 1 ? who : n;
                    }
                }
            }
            throw new IllegalStateException();
        }

        int known(int lesson) {
            if (noLesson(lesson)) {
                return -2;
            }
            int who = 0;
            for (int c = 0; c < children.size(); c++) {
                who |= (end(c, plans[0]) >> lesson & 1) << c;
            }
            return who;
        }

        int[] flooded(int seed, int water) {
            int[] plan = plans[0].clone();
            int z = seed;
            for (int bend = 0; bend < 6; bend++) {
                z = z * 1103515245 + 12345;
                if ((z >>> 11) % 10 < water) {
                    plan[bend] = -1;
                }
            }
            return plan;
        }

        int drawn(int seed, int water) {
            return out(water, 0, 10) ? -2 : pointsOfAll(flooded(seed, water));
        }

        long chance(int seed, int n, int water, int lesson, int part) {
            if (out(n, 1, 20) || out(water, 0, 10) || noLesson(lesson) || out(part, 0, 1)) {
                return -4611686018427387904L;
            }
            int lucky = 0;
            for (int k = 0; k < n; k++) {
                int[] plan = flooded(seed + k, water);
                boolean all = true;
                for (int c = 0; c < children.size(); c++) {
                    all &= (end(c, plan) >> lesson & 1) == 1;
                }
                lucky += all ? 1 : 0;
            }
            long gcd = java.math.BigInteger.valueOf(lucky).gcd(java.math.BigInteger.valueOf(n)).longValue();
            return (part == 0 ? lucky : n) / gcd;
        }

        static List<Lesson> twins(List<Lesson> of) {
            List<Lesson> all = new ArrayList<>();
            of.forEach(l -> all.add(l.twin()));
            return all;
        }

        static List<Child> copies(List<Child> of) {
            List<Child> all = new ArrayList<>();
            of.forEach(c -> all.add(new Child(c.on, c.off, c.age)));
            return all;
        }

        int image() {
            keptLessons = twins(lessons);
            keptChildren = copies(children);
            keptPlans = new int[][] {plans[0].clone(), plans[1].clone()};
            keptRule = rule;
            return children.size();
        }

        int back() {
            if (keptLessons == null) {
                return -3;
            }
            lessons = twins(keptLessons);
            children = copies(keptChildren);
            plans = new int[][] {keptPlans[0].clone(), keptPlans[1].clone()};
            rule = keptRule;
            return children.size();
        }

        int count(int what) {
            int given = 0;
            for (int l : plans[0]) {
                given += l >= 0 ? 1 : 0;
            }
            return out(what, 0, 5) ? -2
                : new int[] {lessons.size(), children.size(), given, texts.size(), tape.length(), rule}[what];
        }

        int sheet(int sheet, int sort, int n) {
            if (out(sheet, 0, 3) || out(sort, -1, 2)) {
                return -2;
            }
            if (sort == -1) {
                sheets[sheet] = null;
                return 1;
            }
            if (n > 40) {
                return -2;
            }
            if (n < 0) {
                return -14;
            }
            sheets[sheet] = sort == 0 ? new byte[n] : sort == 1 ? new short[n] : new int[n];
            return 1;
        }

        int cell(int sheet, int i, int v) {
            if (out(sheet, 0, 3)) {
                return -2;
            }
            Object row = sheets[sheet];
            if (row == null) {
                return -11;
            }
            if (out(i, 0, java.lang.reflect.Array.getLength(row) - 1)) {
                return -12;
            }
            if (row instanceof byte[]) {
                ((byte[]) row)[i] = (byte) v;
            } else if (row instanceof short[]) {
                ((short[]) row)[i] = (short) v;
            } else {
                ((int[]) row)[i] = v;
            }
            return 1;
        }

        /** By what the host itself does: its exceptions are the refusals. */
        int copy(int sheet, int i, int other, int j, int n) {
            if (out(sheet, 0, 3) || out(other, 0, 3)) {
                return -2;
            }
            try {
                System.arraycopy(sheets[sheet], i, sheets[other], j, n);
                return n;
            } catch (NullPointerException e) {
                return -11;
            } catch (ArrayStoreException e) {
                return -13;
            } catch (IndexOutOfBoundsException e) {
                return -12;
            }
        }

        int childrenBy(int sheet, int sort, int from, int n) {
            if (out(sheet, 0, 3) || out(sort, 0, 2) || out(n, 0, 6)) {
                return -2;
            }
            try {
                Object row = sheets[sheet];
                Object taken = sort == 0 ? (byte[]) row : sort == 1 ? (short[]) row : (Object) (int[]) row;
                java.lang.reflect.Array.getLength(taken);
                int came = 0;
                for (int k = 0; k < n; k++) {
                    int what = java.lang.reflect.Array.getInt(taken, from + 2 * k);
                    int age = java.lang.reflect.Array.getInt(taken, from + 2 * k + 1);
                    came += child(what, age) >= 0 ? 1 : 0;
                }
                return came;
            } catch (ClassCastException e) {
                return -13;
            } catch (NullPointerException e) {
                return -11;
            } catch (IndexOutOfBoundsException e) {
                return -12;
            }
        }

        int taken(int lesson, int k) {
            if (out(k, 0, 5)) {
                return -2;
            }
            if (noLesson(lesson)) {
                return -11;
            }
            int[] parents = {-1, 0, 0, 1, 2, 1};
            for (int kind = lessons.get(lesson).kind; kind >= 0; kind = parents[kind]) {
                if (kind == k) {
                    return lessons.get(lesson).number;
                }
            }
            return -13;
        }
    }
}
