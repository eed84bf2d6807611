import java.util.function.Supplier;

/**
 * Each number that a call is told: its least and its greatest (and all between) are let in; below, above and far from
 * them the call is refused as the promise says, and nothing has changed. And: no lessons, no children, no sheets.
 */
public final class NumbersTest extends Twins {
    private interface Call {
        long on(SchoolOnRaft x, int v);
    }

    public static void main(String[] args) {
        lessons();
        children();
        setting();
        telling();
        plans();
        texts();
        springs();
        better();
        exams();
        floods();
        sheets();
        copies();
        childrenBySheet();
        taking();
        withoutLessons();
        withoutChildren();
        withoutSheets();
        close("each number has its bounds");
    }

    private static void span(String what, Supplier<SchoolOnRaft> state, int least, int greatest, long refusal, Call call) {
        for (int v = least; v <= greatest; v++) {
            long answer = call.on(state.get(), v);
            due(what + " " + v + " is let in (" + answer + ")", answer >= NONE ? 1 : 0, 1);
        }
        below(what, state, least, refusal, call);
        above(what, state, greatest, refusal, call);
    }

    private static void below(String what, Supplier<SchoolOnRaft> state, int least, long refusal, Call call) {
        for (int v : new int[] {least - 1, least - 256, least - 65536, Integer.MIN_VALUE + 1, Integer.MIN_VALUE}) {
            refused(what + " " + v, state, x -> call.on(x, v), refusal);
        }
    }

    private static void above(String what, Supplier<SchoolOnRaft> state, int greatest, long refusal, Call call) {
        for (int v : new int[] {greatest + 1, greatest + 256, greatest + 65536, Integer.MAX_VALUE - 1, Integer.MAX_VALUE}) {
            refused(what + " " + v, state, x -> call.on(x, v), refusal);
        }
    }

    private static void lessons() {
        span("2 lesson: kind", READY, 0, 5, BAD, (x, v) -> x.lesson(v, 9, 7));
        span("2 lesson: number", READY, 0, 9, BAD, (x, v) -> x.lesson(5, v, 7));
        span("2 lesson: needs of the fourth", READY, 0, 7, BAD, (x, v) -> x.lesson(5, 9, v));
        span("2 lesson: needs of the first", FRESH, 0, 0, BAD, (x, v) -> x.lesson(0, 0, v));
        span("2 lesson: needs of the second", FED, 0, 1, BAD, (x, v) -> x.lesson(0, 0, v));
    }

    private static void children() {
        for (int what = -70; what <= 130; what++) {
            int v = what;
            boolean may = what >= 0 && what / 10 <= 5 && what % 10 <= 5 && what / 10 <= what % 10;
            if (may) {
                SchoolOnRaft x = READY.get();
                due("3 child: " + v, x.child(v, 5), 3);
                due("3 child: ON by " + v, x.told(3, 5), v / 10);
                due("3 child: OFF by " + v, x.told(3, 6), v % 10);
            } else {
                refused("3 child: " + v, READY, x -> x.child(v, 5), BAD);
            }
        }
        below("3 child: what", READY, 0, BAD, (x, v) -> x.child(v, 14));
        above("3 child: what", READY, 55, BAD, (x, v) -> x.child(v, 14));
        span("3 child: age", READY, 5, 14, BAD, (x, v) -> x.child(5, v));
    }

    private static void setting() {
        span("4 set: what", READY, 0, 4, BAD, (x, v) -> x.set(v, 0, v < 3 ? 0 : 5));
        span("4 set: NUMBER of", READY, 0, 2, BAD, (x, v) -> x.set(0, v, 0));
        span("4 set: NEEDS of", READY, 0, 2, BAD, (x, v) -> x.set(1, v, 0));
        span("4 set: ON of", READY, 0, 2, BAD, (x, v) -> x.set(2, v, 0));
        span("4 set: OFF of", READY, 0, 2, BAD, (x, v) -> x.set(3, v, 5));
        span("4 set: AGE of", READY, 0, 2, BAD, (x, v) -> x.set(4, v, 5));
        span("4 set: NUMBER", READY, 0, 9, BAD, (x, v) -> x.set(0, 2, v));
        span("4 set: NEEDS of the first", READY, 0, 0, BAD, (x, v) -> x.set(1, 0, v));
        span("4 set: NEEDS of the second", READY, 0, 1, BAD, (x, v) -> x.set(1, 1, v));
        span("4 set: NEEDS of the third", READY, 0, 3, BAD, (x, v) -> x.set(1, 2, v));
        span("4 set: NEEDS of the fourth", CROWDED, 0, 7, BAD, (x, v) -> x.set(1, 3, v));
        span("4 set: ON up to OFF", READY, 0, 4, BAD, (x, v) -> x.set(2, 1, v));
        span("4 set: ON up to an OFF of 5", READY, 0, 5, BAD, (x, v) -> x.set(2, 0, v));
        span("4 set: OFF from ON on", READY, 1, 5, BAD, (x, v) -> x.set(3, 1, v));
        span("4 set: OFF from an ON of 0 on", READY, 0, 5, BAD, (x, v) -> x.set(3, 0, v));
        span("4 set: AGE", READY, 5, 14, BAD, (x, v) -> x.set(4, 2, v));
    }

    private static void telling() {
        for (int what = 0; what < 8; what++) {
            int asked = what;
            span("5 told: of, what " + what, READY, 0, 2, BAD, (x, v) -> x.told(v, asked));
        }
        span("5 told: what", READY, 0, 7, BAD, (x, v) -> x.told(0, v));
    }

    private static void plans() {
        span("6 give: raft", READY, 0, 1, BAD, (x, v) -> x.give(v, 5, 2));
        span("6 give: bend", READY, 0, 5, BAD, (x, v) -> x.give(1, v, 2));
        span("6 give: lesson", READY, -1, 2, BAD, (x, v) -> x.give(1, 5, v));
        span("7 given: raft", READY, 0, 1, BAD, (x, v) -> x.given(v, 5));
        span("7 given: bend", READY, 0, 5, BAD, (x, v) -> x.given(1, v));
    }

    private static void texts() {
        span("8 feed", READY, 0, 255, BAD, SchoolOnRaft::feed);
        span("10 force", READY, 0, 1, BAD, SchoolOnRaft::force);
        span("10 force, of six", CROWDED, 0, 5, BAD, SchoolOnRaft::force);
        span("10 force, of one", FRESH, 0, 0, BAD, SchoolOnRaft::force);
    }

    private static void springs() {
        span("11 has: child", READY, 0, 2, BAD, (x, v) -> x.has(v, 5));
        span("11 has: bend", READY, 0, 5, BAD, (x, v) -> x.has(2, v));
        span("12 heard: child", READY, 0, 2, BAD, (x, v) -> x.heard(v, 2, 1));
        span("12 heard: lesson", READY, 0, 2, BAD, (x, v) -> x.heard(2, v, 1));
        span("12 heard: what", READY, 0, 1, BAD, (x, v) -> x.heard(2, 2, v));
        span("13 points", READY, -1, 2, BAD, SchoolOnRaft::points);
    }

    private static void better() {
        span("14 best", READY, 0, 6, BAD, SchoolOnRaft::best);
        span("16 run: child", READY, 0, 2, BAD, (x, v) -> x.run(v, 7, 2));
        span("16 run: lessons", READY, 0, 7, BAD, (x, v) -> x.run(2, v, 2));
        span("16 run: lessons, of four", CROWDED, 0, 15, BAD, (x, v) -> x.run(5, v, 0));
        span("16 run: what", READY, 0, 2, BAD, (x, v) -> x.run(2, 7, v));
        span("17 twice: lesson", READY, 0, 2, BAD, (x, v) -> x.twice(v, 1));
        span("17 twice: what", READY, 0, 1, BAD, (x, v) -> x.twice(2, v));
        span("18 change: child", READY, 0, 2, BAD, (x, v) -> x.change(v, NONE));
        // Child 1 is aboard from 1 to 4, child 2 from 2 to 3.
        span("18 change: bend of 1 .. 4", READY, 1, 4, BAD, (x, v) -> x.change(1, v));
        span("18 change: bend of 2 .. 3", READY, 2, 3, BAD, (x, v) -> x.change(2, v));
        span("18 change: none, and bend of 0 .. 5", READY, -1, 5, BAD, (x, v) -> x.change(0, v));
        refused("18 change: ahead of its ON", READY, x -> x.change(1, 0), BAD);
    }

    private static void exams() {
        span("19 exam: child", EXAMS, 0, 2, BAD, (x, v) -> x.exam(v, 3));
        span("19 exam: sheet", EXAMS, 0, 3, BAD, (x, v) -> x.exam(2, v));
        span("20 aboard: child", EXAMS, 0, 2, BAD, (x, v) -> x.aboard(v, 3, 1));
        span("20 aboard: sheet", EXAMS, 0, 3, BAD, (x, v) -> x.aboard(2, v, 1));
        span("20 aboard: what", EXAMS, 0, 1, BAD, (x, v) -> x.aboard(2, 3, v));
        for (int n = 0; n <= 40; n++) {
            int size = n;
            for (int sort = 0; sort < 3; sort++) {
                SchoolOnRaft x = READY.get();
                x.sheet(3, sort, size);
                due("19 exam by " + size + " numbers", x.exam(0, 3) >= NONE ? 1 : x.exam(0, 3), size == 6 ? 1 : BAD);
                due("20 aboard by " + size + " numbers", x.aboard(0, 3, 0) >= 0 ? 1 : x.aboard(0, 3, 0), size == 6 ? 1 : BAD);
            }
        }
        span("21 together", READY, 0, 2, BAD, SchoolOnRaft::together);
        span("22 known", READY, 0, 2, BAD, SchoolOnRaft::known);
    }

    private static void floods() {
        span("23 drawn: water", READY, 0, 10, BAD, (x, v) -> x.drawn(1, v));
        span("24 chance: n", READY, 1, 20, NO, (x, v) -> x.chance(1, v, 10, 2, 1));
        span("24 chance: water", READY, 0, 10, NO, (x, v) -> x.chance(1, 20, v, 2, 1));
        span("24 chance: lesson", READY, 0, 2, NO, (x, v) -> x.chance(1, 20, 10, v, 1));
        span("24 chance: part", READY, 0, 1, NO, (x, v) -> x.chance(1, 20, 10, 2, v));
        span("27 count", READY, 0, 5, BAD, SchoolOnRaft::count);
        // A seed is any int.
        for (int seed : new int[] {Integer.MIN_VALUE, -1, 0, 1, Integer.MAX_VALUE}) {
            asks("23 drawn: seed " + seed, READY, x -> x.drawn(seed, 5));
            asks("24 chance: seed " + seed, READY, x -> x.chance(seed, 20, 5, 0, 1));
            due("23 drawn: seed " + seed, READY.get().drawn(seed, 0), READY.get().points(NONE));
            due("24 chance: seed " + seed, READY.get().chance(seed, 20, 0, 0, 1), 1);
        }
    }

    private static void sheets() {
        span("28 sheet: sheet", READY, 0, 3, BAD, (x, v) -> x.sheet(v, 2, 40));
        span("28 sheet: sheet to be missing", READY, 0, 3, BAD, (x, v) -> x.sheet(v, -1, 0));
        span("28 sheet: sort", READY, -1, 2, BAD, (x, v) -> x.sheet(3, v, 40));
        for (int sort = 0; sort < 3; sort++) {
            int told = sort;
            for (int n = 0; n <= 40; n++) {
                due("28 sheet: n " + n, READY.get().sheet(0, sort, n), 1);
            }
            below("28 sheet: n", READY, 0, BELOW, (x, v) -> x.sheet(0, told, v));
            above("28 sheet: n", READY, 40, BAD, (x, v) -> x.sheet(0, told, v));
        }
        for (int n : new int[] {Integer.MIN_VALUE, -1, 0, 40, 41, Integer.MAX_VALUE}) {
            SchoolOnRaft x = READY.get();
            due("28 sheet: missing, n " + n, x.sheet(0, -1, n), 1);
            due("28 sheet: is missing, n " + n, x.cell(0, 0, 0), NOTHING);
        }
        span("29 cell: sheet", EXAMS, 0, 3, BAD, (x, v) -> x.cell(v, 5, 1));
        span("29 cell: i", EXAMS, 0, 5, OUTSIDE, (x, v) -> x.cell(3, v, 1));
        for (int v : new int[] {Integer.MIN_VALUE, -32769, -129, -1, 0, 127, 128, 255, 256, 65536, Integer.MAX_VALUE}) {
            for (int sheet = 0; sheet < 3; sheet++) {
                due("29 cell: v " + v, READY.get().cell(sheet, 5, v), 1);
            }
        }
    }

    private static void copies() {
        span("30 copy: sheet", EXAMS, 0, 3, BAD, (x, v) -> x.copy(v, 0, 3, 0, 6));
        span("30 copy: other", EXAMS, 0, 3, BAD, (x, v) -> x.copy(3, 0, v, 0, 6));
        for (int n = 0; n <= 6; n++) {
            int many = n;
            span("30 copy: i, n " + n, EXAMS, 0, 6 - n, OUTSIDE, (x, v) -> x.copy(3, v, 2, 0, many));
            span("30 copy: j, n " + n, EXAMS, 0, 6 - n, OUTSIDE, (x, v) -> x.copy(3, 0, 2, v, many));
            span("30 copy: n, i " + n, EXAMS, 0, 6 - n, OUTSIDE, (x, v) -> x.copy(3, many, 2, 0, v));
            span("30 copy: n, j " + n, EXAMS, 0, 6 - n, OUTSIDE, (x, v) -> x.copy(3, 0, 2, many, v));
        }
    }

    private static void childrenBySheet() {
        span("31 children: sheet", EXAMS, 0, 3, BAD, (x, v) -> x.children(v, 2, 0, 3));
        span("31 children: n", READY, 0, 6, BAD, (x, v) -> x.children(1, 1, 0, v));
        below("31 children: sort", READY, 0, BAD, (x, v) -> x.children(1, v, 0, 6));
        above("31 children: sort", READY, 2, BAD, (x, v) -> x.children(1, v, 0, 6));
        for (int sheet = 0; sheet < 3; sheet++) {
            for (int sort = 0; sort < 3; sort++) {
                // Sheet 0 is of bytes, sheet 1 of shorts, sheet 2 of ints.
                int of = sheet;
                int told = sort;
                if (sheet == sort) {
                    due("31 children: sort " + sort, READY.get().children(of, told, 0, 0), 0);
                } else {
                    refused("31 children: sort " + sort + " of " + sheet, READY, x -> x.children(of, told, 0, 0), UNLIKE);
                }
            }
        }
        for (int n = 1; n <= 6; n++) {
            int many = n;
            span("31 children: from, n " + n, READY, 0, 12 - 2 * n, OUTSIDE, (x, v) -> x.children(1, 1, v, many));
        }
    }

    private static void taking() {
        below("32 taken: k", READY, 0, BAD, (x, v) -> x.taken(0, v));
        above("32 taken: k", READY, 5, BAD, (x, v) -> x.taken(0, v));
        due("32 taken: k 0", READY.get().taken(0, 0), 3);
        due("32 taken: k 5", READY.get().taken(0, 5), UNLIKE);
        due("32 taken: k 5 of a PROOF", CROWDED.get().taken(2, 5), 3);
        span("32 taken: lesson", READY, 0, 2, NOTHING, (x, v) -> x.taken(v, 0));
        for (int k = 0; k < 6; k++) {
            int kind = k;
            below("32 taken: lesson, k " + k, READY, 0, NOTHING, (x, v) -> x.taken(v, kind));
            above("32 taken: lesson, k " + k, READY, 2, NOTHING, (x, v) -> x.taken(v, kind));
        }
    }

    private static void withoutLessons() {
        for (int what = 0; what < 5; what++) {
            int asked = what;
            refused("5 no lessons: told " + what, FRESH, x -> x.told(0, asked), BAD);
        }
        refused("4 no lessons: set NUMBER", FRESH, x -> x.set(0, 0, 0), BAD);
        refused("4 no lessons: set NEEDS", FRESH, x -> x.set(1, 0, 0), BAD);
        refused("6 no lessons: give", FRESH, x -> x.give(0, 0, 0), BAD);
        refused("17 no lessons: twice", FRESH, x -> x.twice(0, 0), BAD);
        refused("22 no lessons: known", FRESH, x -> x.known(0), BAD);
        refused("24 no lessons: chance", FRESH, x -> x.chance(0, 1, 0, 0, 0), NO);
        refused("32 no lessons: taken", FRESH, x -> x.taken(0, 0), NOTHING);
        SchoolOnRaft x = new SchoolOnRaft();
        x.child(5, 9);
        due("6 no lessons: none is given", x.give(0, 0, NONE), NONE);
        due("11 no lessons: has", x.has(0, 5), 0);
        due("12 no lessons: heard", x.heard(0, 0, 0), BAD);
        due("13 no lessons: points", x.points(0), 0);
        due("13 no lessons: points of all", x.points(NONE), 0);
        due("14 no lessons: best", x.best(0), 0);
        for (int what = 1; what <= 6; what++) {
            due("14 no lessons: none at " + what, x.best(what), NONE);
        }
        due("15 no lessons: lay", x.lay(), 0);
        due("16 no lessons: run for none", x.run(0, 0, 0), 0);
        due("16 no lessons: run for one", x.run(0, 1, 0), BAD);
        due("18 no lessons: change", x.change(0, NONE), 0);
        due("18 no lessons: points of a change", x.change(0, 0), 0);
        row(x, 0, 0, 0, 0, 0, 0, 0, 0);
        due("19 no lessons: exam", x.exam(0, 0), NONE);
        due("20 no lessons: aboard", x.aboard(0, 0, 0), 21);
        due("21 no lessons: together", x.together(0), 0);
        due("21 no lessons: nobody must meet", x.together(1), 0);
        due("21 no lessons: how many must meet", x.together(2), 0);
        due("23 no lessons: drawn", x.drawn(1, 0), 0);
        due("27 no lessons: count", x.count(0), 0);
    }

    private static void withoutChildren() {
        for (int what = 5; what < 8; what++) {
            int asked = what;
            refused("5 no children: told " + what, FRESH, x -> x.told(0, asked), BAD);
        }
        for (int what = 2; what < 5; what++) {
            int asked = what;
            refused("4 no children: set " + what, FRESH, x -> x.set(asked, 0, 5), BAD);
        }
        refused("11 no children: has", FRESH, x -> x.has(0, 0), BAD);
        refused("13 no children: points", FRESH, x -> x.points(0), BAD);
        refused("16 no children: run", FRESH, x -> x.run(0, 0, 0), BAD);
        refused("18 no children: change", FRESH, x -> x.change(0, NONE), BAD);
        refused("19 no children: exam", FRESH, x -> x.exam(0, 0), BAD);
        refused("20 no children: aboard", FRESH, x -> x.aboard(0, 0, 0), BAD);
        SchoolOnRaft x = new SchoolOnRaft();
        x.lesson(0, 0, 0);
        x.give(0, 0, 0);
        row(x, 0, 0, 0, 0, 0, 0, 0, 0);
        due("12 no children: heard", x.heard(0, 0, 0), BAD);
        due("13 no children: points of all", x.points(NONE), 0);
        due("14 no children: best", x.best(0), 0);
        due("14 no children: the first row", x.best(1), NONE);
        due("17 no children: twice", x.twice(0, 0), NONE);
        due("17 no children: points of twice", x.twice(0, 1), NONE);
        due("19 no children: exam by a sheet", x.exam(0, 0), BAD);
        due("20 no children: aboard by a sheet", x.aboard(0, 0, 0), BAD);
        due("21 no children: together", x.together(0), 0);
        due("21 no children: meet", x.together(1), 0);
        due("21 no children: how many", x.together(2), 0);
        due("22 no children: known", x.known(0), 0);
        due("23 no children: drawn", x.drawn(1, 0), 0);
        // Of no children all have it, by each seed.
        due("24 no children: chance", x.chance(1, 20, 10, 0, 0), 1);
        due("24 no children: chance, below", x.chance(1, 20, 10, 0, 1), 1);
        due("25 no children: image", x.image(), 0);
        due("26 no children: back", x.back(), 0);
        due("15 no children: lay", x.lay(), 0);
        due("15 no children: laid", x.given(0, 0), NONE);
        due("27 no children: count", x.count(1), 0);
    }

    private static void withoutSheets() {
        for (int sheet = 0; sheet < 4; sheet++) {
            int missing = sheet;
            refused("29 missing: cell", FRESH, x -> x.cell(missing, 0, 1), NOTHING);
            refused("30 missing: copy", FRESH, x -> x.copy(missing, 0, missing, 0, 0), NOTHING);
            for (int sort = 0; sort < 3; sort++) {
                int told = sort;
                refused("31 missing: children of sort " + sort, FRESH, x -> x.children(missing, told, 0, 0), NOTHING);
            }
        }
        refused("19 missing: exam", READY, x -> x.exam(0, 3), NOTHING);
        refused("20 missing: aboard", READY, x -> x.aboard(0, 3, 0), NOTHING);
        refused("30 missing: copied from", READY, x -> x.copy(3, 0, 0, 0, 0), NOTHING);
        refused("30 missing: copied to", READY, x -> x.copy(0, 0, 3, 0, 0), NOTHING);
        refused("26 no image", FRESH, SchoolOnRaft::back, STATE);
    }
}
