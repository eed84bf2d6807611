import java.util.ArrayList;
import java.util.HashMap;
import java.util.List;
import java.util.Map;
import java.util.function.Supplier;
import java.util.function.ToLongFunction;

/**
 * For tests of calls that must change nothing: an object on which such a call was made is asked for all that can be
 * seen of it, and so is a twin on which it was not made. Each object stays within its 512 calls.
 */
abstract class Twins extends Checks {
    /** No lessons, no children, no sheets, an empty tape, no image. */
    static final Supplier<SchoolOnRaft> FRESH = SchoolOnRaft::new;
    /** Three lessons, three children, two texts, three sheets, a tape that is a text but for its last sign, an image. */
    static final Supplier<SchoolOnRaft> READY = Twins::ready;
    /** As READY, with four sheets of six ints. */
    static final Supplier<SchoolOnRaft> EXAMS = Twins::exams;
    /** Four lessons, six children, six texts; no room for one more of these. */
    static final Supplier<SchoolOnRaft> CROWDED = Twins::crowded;
    /** A tape of 160 bytes. */
    static final Supplier<SchoolOnRaft> FED = Twins::fed;

    private static final Map<Supplier<SchoolOnRaft>, List<String>> UNTOUCHED = new HashMap<>();

    /** The call is refused so, and changes nothing. */
    static void refused(String what, Supplier<SchoolOnRaft> state, ToLongFunction<SchoolOnRaft> call, long want) {
        SchoolOnRaft x = state.get();
        due(what, call.applyAsLong(x), want);
        unchanged(what, state, x);
    }

    /** The call only asks: it answers so, and changes nothing. */
    static void asks(String what, Supplier<SchoolOnRaft> state, ToLongFunction<SchoolOnRaft> call) {
        SchoolOnRaft x = state.get();
        long once = call.applyAsLong(x);
        due(what + " asked again", call.applyAsLong(x), once);
        unchanged(what, state, x);
    }

    private static void unchanged(String what, Supplier<SchoolOnRaft> state, SchoolOnRaft x) {
        List<String> want = UNTOUCHED.computeIfAbsent(state, s -> whole(s.get()));
        List<String> got = whole(x);
        due(what + ": as much to see", got.size(), want.size());
        for (int k = 0; k < Math.min(got.size(), want.size()); k++) {
            due(what + " has changed: now " + got.get(k) + ", was " + want.get(k), got.get(k).equals(want.get(k)) ? 1 : 0, 1);
        }
    }

    private static SchoolOnRaft ready() {
        SchoolOnRaft x = new SchoolOnRaft();
        x.lesson(1, 0, 0);
        x.child(25, 6);
        plan(x, 0, 0, -1, 0);
        plan(x, 1, -1, 0);
        x.image();
        x.lesson(0, 3, 1);
        x.lesson(2, 5, 2);
        x.set(0, 0, 3);
        x.set(2, 0, 0);
        x.child(14, 9);
        x.child(23, 12);
        plan(x, 0, 0, 1, 2, -1, 1, 2);
        plan(x, 1, 2, 2, 1, -1, 0, 0);
        read(x, "hears 1;worth age;runs bend;");
        x.force(1);
        truth(x, 0, 0, 0);
        row(x, 1, 1, 5, 9, 14, 5, 23, 7, 33, 14, 1, 9, 55, 8);
        truth(x, 2, 2, 1);
        tape(x, "hears bend<4;worth known;runs 2");
        return x;
    }

    private static SchoolOnRaft exams() {
        SchoolOnRaft x = ready();
        for (int sheet = 0; sheet < 3; sheet++) {
            truth(x, sheet, 2, sheet);
        }
        row(x, 3, 2, 25, 5, 14, 9, 0, 14);
        return x;
    }

    /** A sheet that tells truly what a child has: only on such a one does an exam look at all six numbers. */
    private static void truth(SchoolOnRaft x, int sheet, int sort, int child) {
        row(x, sheet, sort, x.has(child, 0), x.has(child, 1), x.has(child, 2), x.has(child, 3), x.has(child, 4), x.has(child, 5));
    }

    private static SchoolOnRaft crowded() {
        SchoolOnRaft x = new SchoolOnRaft();
        x.lesson(3, 1, 0);
        x.lesson(4, 2, 0);
        x.lesson(5, 3, 1);
        x.child(5, 5);
        x.child(14, 6);
        x.image();
        x.lesson(0, 4, 7);
        x.child(23, 7);
        x.child(33, 8);
        x.child(25, 9);
        x.child(45, 14);
        plan(x, 0, 0, 0, 0, 1, 2, 3);
        plan(x, 1, 3, 2, 1, 0, -1, 1);
        for (int k = 1; k <= 5; k++) {
            read(x, "hears" + k + ";worth" + k + ";runs" + k + ";");
        }
        x.force(3);
        row(x, 3, 0, 15, 9, 33, 7);
        tape(x, "hears");
        return x;
    }

    private static SchoolOnRaft fed() {
        SchoolOnRaft x = new SchoolOnRaft();
        x.lesson(0, 0, 0);
        x.child(5, 5);
        plan(x, 0, 0);
        tape(x, "hears 1;worth 5;runs 1;");
        while (x.count(4) < 160) {
            x.feed(' ');
        }
        return x;
    }

    /** All that can be seen of an object; what can be seen by changing it alone comes last. */
    private static List<String> whole(SchoolOnRaft x) {
        List<String> all = new ArrayList<>();
        board(x, all);
        for (int what = 0; what <= 6; what++) {
            all.add("best(" + what + ") " + x.best(what));
        }
        sheets(x, all);
        all.add("feed(59) " + x.feed(';'));
        all.add("text() " + x.text());
        texts(x, all);
        all.add("back() " + x.back());
        board(x, all);
        for (int sheet = 0; sheet < 4; sheet++) {
            for (int sort = 0; sort < 3; sort++) {
                all.add("children(" + sheet + ", " + sort + ", 0, 6) " + x.children(sheet, sort, 0, 6));
            }
        }
        childrenOf(x, all);
        return all;
    }

    private static void board(SchoolOnRaft x, List<String> all) {
        for (int what = 0; what < 6; what++) {
            all.add("count(" + what + ") " + x.count(what));
        }
        for (int lesson = 0; lesson < 4; lesson++) {
            for (int what = 0; what < 3; what++) {
                all.add("told(" + lesson + ", " + what + ") " + x.told(lesson, what));
            }
        }
        childrenOf(x, all);
        for (int bend = 0; bend < 6; bend++) {
            all.add("given(0, " + bend + ") " + x.given(0, bend));
            all.add("given(1, " + bend + ") " + x.given(1, bend));
        }
        all.add("points(-1) " + x.points(-1));
    }

    private static void childrenOf(SchoolOnRaft x, List<String> all) {
        for (int child = 0; child < 6; child++) {
            for (int what = 5; what < 8; what++) {
                all.add("told(" + child + ", " + what + ") " + x.told(child, what));
            }
        }
    }

    private static void sheets(SchoolOnRaft x, List<String> all) {
        for (int sheet = 0; sheet < 4; sheet++) {
            for (int child = 0; child < 3; child++) {
                all.add("exam(" + child + ", " + sheet + ") " + x.exam(child, sheet));
            }
            for (int n : new int[] {0, 1, 5, 6, 7, 12, 13}) {
                all.add("copy(" + sheet + ", 0, " + sheet + ", 0, " + n + ") " + x.copy(sheet, 0, sheet, 0, n));
            }
            for (int other = 0; other < sheet; other++) {
                all.add("copy(" + sheet + ", 0, " + other + ", 0, 0) " + x.copy(sheet, 0, other, 0, 0));
            }
        }
    }

    /** The points tell which worth is read, and what the run of a child that came too late costs, which runs. */
    private static void texts(SchoolOnRaft x, List<String> all) {
        for (int text = 0; text < x.count(3) && text < 6; text++) {
            all.add("force(" + text + ") " + x.force(text));
            all.add("points(-1) by text " + text + " " + x.points(-1));
            x.set(2, 0, x.told(0, 6));
            all.add("run(0, 1, 0) by text " + text + " " + x.run(0, 1, 0));
        }
    }
}
