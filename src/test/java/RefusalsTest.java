/**
 * "Refusals, the first that the call's words name; they change nothing": calls with two or more reasons to be refused,
 * objects that are full, calls that only ask, and what each call that changes leaves alone.
 */
public final class RefusalsTest extends Twins {
    public static void main(String[] args) {
        fourLessons();
        sixChildren();
        fullTape();
        sixTexts();
        setting();
        examFirst();
        aboardFirst();
        sheetFirst();
        cellFirst();
        copyFirst();
        childrenFirst();
        childrenCameAhead();
        takenFirst();
        noneIsNoRefusal();
        asking();
        image();
        close("refusals come in their order and change nothing");
    }

    private static void fourLessons() {
        refused("2 a fifth lesson", CROWDED, x -> x.lesson(0, 0, 0), FULL);
        refused("2 a fifth lesson that needs all", CROWDED, x -> x.lesson(5, 9, 15), FULL);
        refused("2 BAD kind ahead of FULL", CROWDED, x -> x.lesson(6, 0, 0), BAD);
        refused("2 BAD kind below ahead of FULL", CROWDED, x -> x.lesson(-1, 0, 0), BAD);
        refused("2 BAD number ahead of FULL", CROWDED, x -> x.lesson(0, 10, 0), BAD);
        refused("2 BAD number below ahead of FULL", CROWDED, x -> x.lesson(0, -1, 0), BAD);
        refused("2 BAD needs ahead of FULL", CROWDED, x -> x.lesson(0, 0, 16), BAD);
        refused("2 BAD needs below ahead of FULL", CROWDED, x -> x.lesson(0, 0, -1), BAD);
        SchoolOnRaft x = READY.get();
        due("2 the fourth has room", x.lesson(0, 0, 0), 3);
        due("2 then none has", x.lesson(0, 0, 0), FULL);
        due("26 the image has one", x.back(), 1);
        due("2 room again behind back", x.lesson(0, 0, 1), 1);
    }

    private static void sixChildren() {
        refused("3 a seventh child", CROWDED, x -> x.child(0, 5), FULL);
        refused("3 a seventh child, the greatest", CROWDED, x -> x.child(55, 14), FULL);
        refused("3 BAD what ahead of FULL", CROWDED, x -> x.child(56, 5), BAD);
        refused("3 BAD what below ahead of FULL", CROWDED, x -> x.child(-1, 5), BAD);
        refused("3 ON behind OFF ahead of FULL", CROWDED, x -> x.child(54, 5), BAD);
        refused("3 BAD age ahead of FULL", CROWDED, x -> x.child(0, 4), BAD);
        refused("3 BAD age above ahead of FULL", CROWDED, x -> x.child(0, 15), BAD);
        SchoolOnRaft x = CROWDED.get();
        due("26 the image has two", x.back(), 2);
        for (int k = 2; k < 6; k++) {
            due("3 room again behind back", x.child(0, 5), k);
        }
        due("3 then none has", x.child(0, 5), FULL);
    }

    private static void fullTape() {
        refused("8 a byte more", FED, x -> x.feed(0), FULL);
        refused("8 the greatest byte more", FED, x -> x.feed(255), FULL);
        refused("8 BAD ahead of FULL", FED, x -> x.feed(-1), BAD);
        refused("8 BAD above ahead of FULL", FED, x -> x.feed(256), BAD);
        SchoolOnRaft x = FED.get();
        due("9 a full tape is read", x.text(), 1);
        due("9 and is empty then", x.count(4), 0);
        due("8 so that there is room", x.feed(32), 1);
    }

    private static void sixTexts() {
        refused("9 a seventh text", CROWDED, SchoolOnRaft::text, FULL);
        SchoolOnRaft x = CROWDED.get();
        due("9 the tape has a fault, and stays", x.count(4), 5);
        tape(x, " 1;worth 1;runs 1;");
        due("9 a seventh text without a fault", x.text(), FULL);
        due("9 the tape stays", x.count(4), 23);
        due("9 no text came", x.count(3), 6);
        due("10 none is in force", x.force(6), BAD);
        x.back();
        due("9 texts don't go by back", x.text(), FULL);
        // With an empty tape, too, whose fault would be at 0.
        x = new SchoolOnRaft();
        for (int k = 1; k <= 5; k++) {
            due("9 text " + k, read(x, "hears1;worth0;runs1;"), k);
        }
        due("9 FULL ahead of the fault of an empty tape", x.text(), FULL);
        // A fault takes no room.
        x = new SchoolOnRaft();
        for (int k = 0; k < 8; k++) {
            due("9 fault " + k, read(x, "hears"), -105);
        }
        due("9 the first text yet", read(x, "hears1;worth0;runs1;"), 1);
    }

    private static void setting() {
        // OFF 4 is the greatest ON of child 1, and its ON 1 the least OFF; both may be met.
        SchoolOnRaft x = READY.get();
        due("4 ON becomes OFF", x.set(2, 1, 4), 1);
        due("4 ON is OFF", x.told(1, 5), 4);
        due("4 OFF can't be ahead of it", x.set(3, 1, 3), BAD);
        due("4 OFF may stay there", x.set(3, 1, 4), 4);
        due("4 ON can't be behind it", x.set(2, 1, 5), BAD);
        x = READY.get();
        due("4 OFF becomes ON", x.set(3, 1, 1), 4);
        due("4 OFF is ON", x.told(1, 6), 1);
        due("4 as it is", x.set(4, 1, 9), 9);
        due("4 NUMBER as it is", x.set(0, 0, 3), 3);
        refused("4 a child's number that is no lesson's", READY, y -> y.set(0, 3, 0), BAD);
        // Five children, four lessons: of is asked among those that what tells.
        due("4 NUMBER of none, though there is such a child", CROWDED.get().set(0, 4, 0), BAD);
        due("4 NEEDS of none, though there is such a child", CROWDED.get().set(1, 4, 0), BAD);
        due("4 AGE of a child beyond the lessons", CROWDED.get().set(4, 5, 5), 14);
        due("5 NUMBER of none, though there is such a child", CROWDED.get().told(4, 1), BAD);
        due("5 AGE of a child beyond the lessons", CROWDED.get().told(5, 7), 14);
        due("4 ON of none, though there is such a lesson", FED.get().set(2, 1, 0), BAD);
    }

    private static void examFirst() {
        refused("19 BAD child ahead of a missing sheet", READY, x -> x.exam(3, 3), BAD);
        refused("19 BAD child below ahead of a missing sheet", READY, x -> x.exam(-1, 3), BAD);
        refused("19 BAD sheet", READY, x -> x.exam(0, 4), BAD);
        refused("19 both are BAD", READY, x -> x.exam(3, 4), BAD);
        refused("19 missing, so of no size", READY, x -> x.exam(0, 3), NOTHING);
        refused("19 BAD size", READY, x -> x.exam(0, 1), BAD);
        refused("19 no children, and a missing sheet", FRESH, x -> x.exam(0, 0), BAD);
    }

    private static void aboardFirst() {
        refused("20 BAD child ahead of a missing sheet", READY, x -> x.aboard(3, 3, 0), BAD);
        refused("20 BAD sheet", READY, x -> x.aboard(0, -1, 0), BAD);
        refused("20 missing ahead of BAD what", READY, x -> x.aboard(0, 3, 2), NOTHING);
        refused("20 missing ahead of BAD what below", READY, x -> x.aboard(0, 3, -1), NOTHING);
        refused("20 BAD child, a missing sheet and BAD what", READY, x -> x.aboard(-1, 3, 2), BAD);
        refused("20 BAD size", READY, x -> x.aboard(0, 1, 0), BAD);
        refused("20 BAD size and BAD what", READY, x -> x.aboard(0, 1, 2), BAD);
        refused("20 BAD what", READY, x -> x.aboard(0, 0, 2), BAD);
        refused("20 no children, and a missing sheet", FRESH, x -> x.aboard(0, 0, 0), BAD);
    }

    private static void sheetFirst() {
        refused("28 BAD sheet ahead of n below 0", READY, x -> x.sheet(4, 0, -1), BAD);
        refused("28 BAD sheet below ahead of n below 0", READY, x -> x.sheet(-1, 0, -1), BAD);
        refused("28 BAD sort ahead of n below 0", READY, x -> x.sheet(0, 3, -1), BAD);
        refused("28 BAD sort below ahead of n below 0", READY, x -> x.sheet(0, -2, -1), BAD);
        refused("28 BAD sort that wraps", READY, x -> x.sheet(0, Integer.MIN_VALUE, 0), BAD);
        refused("28 BAD sheet that shall be missing", READY, x -> x.sheet(4, -1, 0), BAD);
        refused("28 n below 0", READY, x -> x.sheet(0, 0, -1), BELOW);
        refused("28 n above 40", READY, x -> x.sheet(0, 0, 41), BAD);
        refused("28 n below 0 of a missing one", READY, x -> x.sheet(3, 0, -1), BELOW);
    }

    private static void cellFirst() {
        refused("29 BAD sheet ahead of all", READY, x -> x.cell(4, -1, 0), BAD);
        refused("29 missing ahead of outside", READY, x -> x.cell(3, -1, 0), NOTHING);
        refused("29 missing ahead of outside above", READY, x -> x.cell(3, 40, 0), NOTHING);
        refused("29 outside", READY, x -> x.cell(0, 6, 0), OUTSIDE);
        SchoolOnRaft x = READY.get();
        x.sheet(0, 0, 0);
        due("29 a row of none has no item 0", x.cell(0, 0, 0), OUTSIDE);
    }

    private static void copyFirst() {
        refused("30 BAD sheet ahead of a missing one", READY, x -> x.copy(4, 0, 3, 0, 1), BAD);
        refused("30 BAD other ahead of a missing one", READY, x -> x.copy(3, 0, 4, 0, 1), BAD);
        refused("30 BAD ahead of outside", READY, x -> x.copy(-1, -1, 0, -1, -1), BAD);
        refused("30 missing ahead of unlike: from", READY, x -> x.copy(3, 0, 0, 0, 1), NOTHING);
        refused("30 missing ahead of unlike: to", READY, x -> x.copy(2, 0, 3, 0, 1), NOTHING);
        refused("30 missing ahead of outside", READY, x -> x.copy(3, -1, 0, 99, 1), NOTHING);
        refused("30 missing ahead of n below 0", READY, x -> x.copy(0, 0, 3, 0, -1), NOTHING);
        refused("30 unlike ahead of outside: i", READY, x -> x.copy(0, 6, 1, 0, 1), UNLIKE);
        refused("30 unlike ahead of outside: j", READY, x -> x.copy(0, 0, 1, 12, 1), UNLIKE);
        refused("30 unlike ahead of n below 0", READY, x -> x.copy(0, 0, 2, 0, -1), UNLIKE);
        refused("30 unlike, though none are copied", READY, x -> x.copy(0, 0, 2, 0, 0), UNLIKE);
        refused("30 a part has room, but not all", READY, x -> x.copy(0, 3, 0, 0, 4), OUTSIDE);
        refused("30 a part would come, but not all", READY, x -> x.copy(0, 0, 0, 3, 4), OUTSIDE);
        refused("30 n below 0", READY, x -> x.copy(0, 3, 0, 3, -1), OUTSIDE);
        refused("30 i and n wrap", READY, x -> x.copy(0, 1, 0, 0, Integer.MAX_VALUE), OUTSIDE);
        refused("30 j and n wrap", READY, x -> x.copy(0, 0, 0, 1, Integer.MAX_VALUE), OUTSIDE);
        refused("30 i wraps", READY, x -> x.copy(0, Integer.MAX_VALUE, 0, 0, 1), OUTSIDE);
        refused("30 j wraps", READY, x -> x.copy(0, 0, 0, Integer.MAX_VALUE, 1), OUTSIDE);
        refused("30 all of them wrap", READY,
            x -> x.copy(0, Integer.MIN_VALUE, 0, Integer.MIN_VALUE, Integer.MIN_VALUE), OUTSIDE);
    }

    private static void childrenFirst() {
        refused("31 BAD sheet ahead of a missing one", READY, x -> x.children(4, 0, 0, 1), BAD);
        refused("31 BAD sort of a missing one", READY, x -> x.children(3, 3, 0, 1), BAD);
        refused("31 BAD sort below of a missing one", READY, x -> x.children(3, -1, 0, 1), BAD);
        refused("31 BAD n of a missing one", READY, x -> x.children(3, 0, 0, 7), BAD);
        refused("31 BAD n ahead of unlike", READY, x -> x.children(1, 0, 0, 7), BAD);
        refused("31 BAD n below ahead of unlike", READY, x -> x.children(1, 0, 0, -1), BAD);
        refused("31 BAD n ahead of outside", READY, x -> x.children(1, 1, -1, 7), BAD);
        refused("31 unlike ahead of outside", READY, x -> x.children(1, 2, -1, 1), UNLIKE);
        refused("31 unlike ahead of outside above", READY, x -> x.children(1, 0, 99, 6), UNLIKE);
        refused("31 missing ahead of outside", READY, x -> x.children(3, 1, -1, 1), NOTHING);
        refused("31 outside at once", READY, x -> x.children(1, 1, 12, 1), OUTSIDE);
        refused("31 outside at once, below", READY, x -> x.children(1, 1, -2, 6), OUTSIDE);
        refused("31 outside by half", READY, x -> x.children(1, 1, 11, 1), OUTSIDE);
        refused("31 outside though there is no room", CROWDED, x -> x.children(3, 0, 4, 1), OUTSIDE);
        refused("31 no room: left out", CROWDED, x -> x.children(3, 0, 0, 2), 0);
        refused("31 no room, then outside", CROWDED, x -> x.children(3, 0, 0, 3), OUTSIDE);
    }

    private static void childrenCameAhead() {
        // A row of 5: two children, and a third whose age is outside.
        SchoolOnRaft x = READY.get();
        row(x, 3, 2, 45, 7, 55, 14, 0);
        due("31 the third is outside", x.children(3, 2, 0, 3), OUTSIDE);
        due("31 two came ahead of it", x.count(1), 5);
        due("31 ON of the first", x.told(3, 5), 4);
        due("31 OFF of the first", x.told(3, 6), 5);
        due("31 AGE of the second", x.told(4, 7), 14);
        // Those that are none are left out, wherever they stand; those behind them come.
        x = READY.get();
        row(x, 3, 1, 10, 9, 5, 4, 5, 15, 60, 9, -1, 9, 5, 9);
        due("31 five are left out", x.children(3, 1, 0, 6), 1);
        due("31 the last came", x.told(3, 6), 5);
        due("31 it is one", x.count(1), 4);
        // Three have room, the others are left out.
        x = READY.get();
        due("31 six, and room for three", x.children(1, 1, 0, 6), 3);
        due("31 six children", x.count(1), 6);
        due("31 the first came", x.told(3, 7), 9);
        due("31 the third came", x.told(5, 7), 7);
        due("31 no room any more", x.children(1, 1, 0, 6), 0);
        // n 0 looks at no place.
        for (int from : new int[] {Integer.MIN_VALUE, -1, 0, 12, 13, Integer.MAX_VALUE}) {
            refused("31 none from " + from, READY, y -> y.children(1, 1, from, 0), 0);
        }
        // The greatest from lets 2 more each wrap to places below 0.
        refused("31 from the greatest int", READY, y -> y.children(1, 1, Integer.MAX_VALUE, 6), OUTSIDE);
        refused("31 from the greatest but one", READY, y -> y.children(1, 1, Integer.MAX_VALUE - 1, 6), OUTSIDE);
        refused("31 from the least int", READY, y -> y.children(1, 1, Integer.MIN_VALUE, 6), OUTSIDE);
    }

    private static void takenFirst() {
        refused("32 BAD k ahead of no lesson", READY, x -> x.taken(3, 6), BAD);
        refused("32 BAD k below ahead of no lesson", READY, x -> x.taken(-1, -1), BAD);
        refused("32 no lesson", READY, x -> x.taken(3, 5), NOTHING);
        refused("32 unlike", READY, x -> x.taken(0, 2), UNLIKE);
        refused("32 a LESSON is no LONG", READY, x -> x.taken(1, 1), UNLIKE);
        refused("32 BAD k, no lessons", FRESH, x -> x.taken(0, 6), BAD);
    }

    /** NONE is an answer, that comes behind BAD. Nobody ever has a lesson that is not given. */
    private static void noneIsNoRefusal() {
        SchoolOnRaft x = new SchoolOnRaft();
        x.lesson(0, 0, 0);
        x.child(5, 5);
        for (int what = 0; what < 3; what++) {
            due("16 none, what " + what, x.run(0, 1, what), NONE);
        }
        due("16 BAD what ahead of NONE", x.run(0, 1, 3), BAD);
        due("16 BAD what below ahead of NONE", x.run(0, 1, -1), BAD);
        due("16 BAD child ahead of NONE", x.run(1, 1, 0), BAD);
        due("16 BAD lessons ahead of NONE", x.run(0, 3, 0), BAD);
        x.give(0, 0, 0);
        for (int what = 0; what < 2; what++) {
            due("17 none, what " + what, x.twice(0, what), NONE);
        }
        due("17 BAD what ahead of NONE", x.twice(0, 2), BAD);
        due("17 BAD what below ahead of NONE", x.twice(0, -1), BAD);
        due("17 BAD lesson ahead of NONE", x.twice(1, 0), BAD);
        row(x, 0, 0, 0, 0, 0, 0, 0, 0);
        due("20 those who missed it", x.aboard(0, 0, 0), 15);
        row(x, 0, 0, 2, 2, 2, 2, 2, 2);
        due("20 none, how many", x.aboard(0, 0, 0), 0);
        due("20 none, the first", x.aboard(0, 0, 1), NONE);
        due("20 BAD what ahead of NONE", x.aboard(0, 0, 2), BAD);
        due("20 BAD what below ahead of NONE", x.aboard(0, 0, -1), BAD);
    }

    private static void asking() {
        for (int child = 0; child < 3; child++) {
            int of = child;
            asks("11 has", READY, x -> x.has(of, 5));
            asks("12 heard", READY, x -> x.heard(of, 1, 1));
            asks("13 points", READY, x -> x.points(of));
            asks("16 run", READY, x -> x.run(of, 7, 1));
            asks("18 change", READY, x -> x.change(of, NONE));
            asks("18 change at a bend", READY, x -> x.change(of, 2));
            asks("19 exam", READY, x -> x.exam(of, 0));
            asks("20 aboard", READY, x -> x.aboard(of, 2, 1));
            asks("5 told", READY, x -> x.told(of, 4));
            asks("17 twice", READY, x -> x.twice(of, 1));
            asks("22 known", READY, x -> x.known(of));
            asks("32 taken", READY, x -> x.taken(of, 0));
            asks("24 chance", READY, x -> x.chance(7, 20, 5, of, 0));
        }
        asks("7 given", READY, x -> x.given(0, 0));
        asks("14 best", READY, x -> x.best(0));
        asks("14 best's row", READY, x -> x.best(6));
        asks("21 together", READY, x -> x.together(1));
        asks("23 drawn", READY, x -> x.drawn(7, 5));
        asks("27 count", READY, x -> x.count(2));
        asks("30 copy over itself", READY, x -> x.copy(1, 0, 1, 0, 12));
    }

    private static void image() {
        refused("26 no image", FRESH, SchoolOnRaft::back, STATE);
        refused("26 no image, but a board", FED, SchoolOnRaft::back, STATE);
        SchoolOnRaft x = FED.get();
        due("25 image", x.image(), 1);
        due("26 back", x.back(), 1);
        due("26 back once more", x.back(), 1);
    }
}
