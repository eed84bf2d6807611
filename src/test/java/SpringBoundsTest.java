/** The boundaries of a spring and of what is asked about it: kinds, who hears, what is kept, ties, floods, images. */
public final class SpringBoundsTest extends Checks {
    public static void main(String[] args) {
        times();
        points();
        timesAreEnough();
        timesOrMore();
        aboardFromOnToOff();
        needsAll();
        needsInTime();
        keepsLight();
        keepsSong();
        keepsTheOthers();
        keepsHard();
        anew();
        known();
        often();
        noLesson();
        bestTies();
        bestBounds();
        layChanges();
        runBounds();
        runTies();
        twiceBounds();
        changeBounds();
        examBounds();
        aboardBounds();
        together();
        meetTies();
        drawnBelowWater();
        drawnSeeds();
        chanceSeeds();
        chanceTerms();
        imageKeeps();
        imageKeepsAll();
        imageLetsGo();
        taken();
        counts();
        close("springs hold at their boundaries");
    }

    /** One lesson of a kind, one child that is aboard all the way. */
    private static SchoolOnRaft one(int kind, int number) {
        SchoolOnRaft x = new SchoolOnRaft();
        due("lesson", x.lesson(kind, number, 0), 0);
        due("child", x.child(5, 9), 0);
        return x;
    }

    private static void times() {
        String[] times = {"1111111111", "1231231231", "1111111111", "2342342342", "1212121212", "1231231231"};
        for (int kind = 0; kind < 6; kind++) {
            for (int number = 0; number < 10; number++) {
                int want = times[kind].charAt(number) - '0';
                due("5 TIMES of kind " + kind + ", NUMBER " + number, one(kind, number).told(0, 3), want);
                SchoolOnRaft x = one(kind, 9 - number);
                x.set(0, 0, number);
                due("5 TIMES of kind " + kind + ", NUMBER " + number + " by set", x.told(0, 3), want);
            }
        }
    }

    private static void points() {
        int[][] points = {
            {10, 11, 12, 13, 14, 15, 16, 17, 18, 19},
            {20, 22, 24, 26, 28, 30, 32, 34, 36, 38},
            {5, 6, 7, 8, 9, 10, 11, 12, 13, 14},
            {20, 23, 26, 29, 32, 35, 38, 41, 44, 47},
            // Half of a LIGHT's, cut: 5 is 2, 7 is 3 and so on.
            {2, 3, 3, 4, 4, 5, 5, 6, 6, 7},
            {27, 29, 31, 33, 35, 37, 39, 41, 43, 45}};
        for (int kind = 0; kind < 6; kind++) {
            for (int number = 0; number < 10; number++) {
                String what = " of kind " + kind + ", NUMBER " + number;
                SchoolOnRaft x = one(kind, number);
                due("5 POINTS" + what, x.told(0, 4), points[kind][number]);
                plan(x, 0, 0, 0, 0, 0, 0, 0);
                due("13 points" + what, x.points(0), points[kind][number]);
            }
        }
    }

    /** Heard once less than TIMES it is not understood; heard TIMES it is, at that bend. */
    private static void timesAreEnough() {
        for (int kind = 0; kind < 6; kind++) {
            for (int number = 0; number < 10; number++) {
                SchoolOnRaft x = one(kind, number);
                int times = x.told(0, 3);
                for (int bend = 0; bend < times; bend++) {
                    due("12 too seldom, kind " + kind + ", NUMBER " + number, x.heard(0, 0, 1), NONE);
                    due("12 heard", x.heard(0, 0, 0), bend);
                    x.give(0, bend, 0);
                }
                due("12 TIMES, kind " + kind + ", NUMBER " + number, x.heard(0, 0, 1), times - 1);
                due("12 heard TIMES", x.heard(0, 0, 0), times);
                due("11 HAS it at that bend", x.has(0, times - 1), 1);
                due("11 HASN'T it ahead", times == 1 ? 0 : x.has(0, times - 2), 0);
            }
        }
    }

    private static void timesOrMore() {
        // Lesson 1 must be heard twice, and needs lesson 0, that comes when it has been heard three times.
        SchoolOnRaft x = one(0, 0);
        x.lesson(1, 1, 1);
        plan(x, 0, 1, 1, 1, 0, 1, -1);
        due("12 as often as it is given", x.heard(0, 1, 0), 4);
        due("12 understood when the need is there", x.heard(0, 1, 1), 4);
        x.give(0, 4, -1);
        due("12 not without hearing it again", x.heard(0, 1, 1), NONE);
        // Heard at all six bends.
        plan(x, 0, 1, 1, 1, 1, 1, 1);
        due("12 six times", x.heard(0, 1, 0), 6);
        due("12 never understood", x.heard(0, 1, 1), NONE);
    }

    private static void aboardFromOnToOff() {
        for (int on = 0; on < 6; on++) {
            for (int off = on; off < 6; off++) {
                SchoolOnRaft x = new SchoolOnRaft();
                x.lesson(0, 0, 0);
                x.child(10 * on + off, 9);
                for (int bend = 0; bend < 6; bend++) {
                    x.give(0, bend, 0);
                    boolean aboard = on <= bend && bend <= off;
                    String what = on + " .. " + off + ", at " + bend;
                    due("12 heard, " + what, x.heard(0, 0, 0), aboard ? 1 : 0);
                    due("12 understood, " + what, x.heard(0, 0, 1), aboard ? bend : NONE);
                    due("11 HAS at the end, " + what, x.has(0, 5), aboard ? 1 : 0);
                    due("11 HAS at that bend, " + what, x.has(0, bend), aboard ? 1 : 0);
                    due("11 HASN'T ahead, " + what, bend == 0 ? 0 : x.has(0, bend - 1), 0);
                    due("18 change, " + what, x.change(0, bend), aboard ? 10 : BAD);
                    x.give(0, bend, -1);
                }
                plan(x, 0, 0, 0, 0, 0, 0, 0);
                due("12 all bends aboard", x.heard(0, 0, 0), off - on + 1);
            }
        }
    }

    private static void needsAll() {
        for (int given = 0; given < 8; given++) {
            SchoolOnRaft x = new SchoolOnRaft();
            x.lesson(0, 0, 0);
            x.lesson(0, 0, 0);
            x.lesson(0, 0, 0);
            x.lesson(0, 0, 7);
            x.child(5, 9);
            for (int lesson = 0; lesson < 3; lesson++) {
                x.give(0, lesson, (given >> lesson & 1) == 1 ? lesson : -1);
            }
            x.give(0, 3, 3);
            due("12 needs 7, has " + given, x.heard(0, 3, 1), given == 7 ? 3 : NONE);
            due("12 heard though", x.heard(0, 3, 0), 1);
            due("11 has", x.has(0, 5), given == 7 ? 15 : given);
        }
        // A need that comes at a later bend is not there yet.
        SchoolOnRaft x = new SchoolOnRaft();
        x.lesson(0, 0, 0);
        x.lesson(0, 0, 1);
        x.child(5, 9);
        plan(x, 0, 1, 0, -1, -1, -1, -1);
        due("11 needs it too early", x.has(0, 5), 1);
        plan(x, 0, 0, 1);
        due("11 needs it just in time", x.has(0, 5), 3);
    }

    private static void needsInTime() {
        for (int number = 0; number < 5; number++) {
            for (int bend = 1; bend < 6; bend++) {
                SchoolOnRaft x = new SchoolOnRaft();
                x.lesson(2, number, 0);
                x.lesson(0, 0, 1);
                x.child(5, 9);
                x.give(0, 0, 0);
                x.give(0, bend, 1);
                due("12 LIGHT of " + number + " needed at " + bend, x.heard(0, 1, 1), bend <= number ? bend : NONE);
            }
        }
    }

    private static void keepsLight() {
        for (int number = 0; number < 10; number++) {
            for (int at = 0; at < 6; at++) {
                SchoolOnRaft x = one(2, number);
                x.give(0, at, 0);
                for (int bend = 0; bend < 6; bend++) {
                    due("11 LIGHT of " + number + ", " + (bend - at) + " behind", x.has(0, bend),
                        at <= bend && bend - at <= number ? 1 : 0);
                }
                due("13 LIGHT of " + number + " from " + at, x.points(0), 5 - at <= number ? 5 + number : 0);
                due("22 LIGHT of " + number + " from " + at, x.known(0), 5 - at <= number ? 1 : 0);
                due("21 LIGHT of " + number + " from " + at, x.together(0), 5 - at <= number ? 1 : 0);
            }
        }
    }

    private static void keepsSong() {
        for (int number = 0; number < 10; number++) {
            for (int at = number % 2; at < 6; at++) {
                SchoolOnRaft x = one(4, number);
                x.give(0, at, 0);
                if (number % 2 == 1) {
                    x.give(0, at - 1, 0);
                }
                for (int bend = 0; bend < 6; bend++) {
                    int d = bend - at;
                    due("11 SONG of " + number + ", " + d + " behind", x.has(0, bend), d >= 0 && (d <= number || d % 2 == 0) ? 1 : 0);
                }
            }
        }
    }

    private static void keepsTheOthers() {
        for (int kind : new int[] {0, 1, 5}) {
            for (int at = 0; at < 6; at++) {
                SchoolOnRaft x = one(kind, 0);
                x.give(0, at, 0);
                for (int bend = 0; bend < 6; bend++) {
                    due("11 kind " + kind + ", " + (bend - at) + " behind", x.has(0, bend), at <= bend ? 1 : 0);
                }
            }
        }
    }

    private static void keepsHard() {
        // A HARD must be heard twice at least, so 4 is the greatest d that it comes to: and it is there yet.
        for (int at = 1; at < 6; at++) {
            SchoolOnRaft x = one(3, 0);
            x.give(0, at - 1, 0);
            x.give(0, at, 0);
            for (int bend = 0; bend < 6; bend++) {
                due("11 HARD, " + (bend - at) + " behind", x.has(0, bend), at <= bend ? 1 : 0);
            }
        }
        SchoolOnRaft x = one(3, 2);
        plan(x, 0, 0, 0, 0, 0, -1, -1);
        due("12 HARD of 2, four times", x.heard(0, 0, 1), 3);
        x.give(0, 3, -1);
        due("12 HARD of 2, three times", x.heard(0, 0, 1), NONE);
    }

    /** Given at bend 0 and again at a later one: understood anew if it is forgotten there, by KEEPS from bend 0. */
    private static void anew() {
        for (int number = 0; number < 6; number++) {
            for (int bend = 1; bend < 6; bend++) {
                SchoolOnRaft x = one(2, number);
                x.give(0, 0, 0);
                x.give(0, bend, 0);
                due("12 LIGHT of " + number + " again at " + bend, x.heard(0, 0, 1), bend <= number ? 0 : bend);
                due("11 LIGHT of " + number + " again at " + bend, x.has(0, bend), 1);
                due("12 heard again", x.heard(0, 0, 0), 2);
                // KEEPS goes by the latest time it was understood.
                due("11 at the end", x.has(0, 5), 5 - (bend <= number ? 0 : bend) <= number ? 1 : 0);
            }
        }
        for (int bend = 1; bend < 6; bend++) {
            SchoolOnRaft x = one(4, 0);
            x.give(0, 0, 0);
            x.give(0, bend, 0);
            due("12 SONG of 0 again at " + bend, x.heard(0, 0, 1), bend % 2 == 0 ? 0 : bend);
        }
        for (int kind : new int[] {0, 1, 5}) {
            SchoolOnRaft x = one(kind, 0);
            plan(x, 0, -1, 0, 0, 0, 0, 0);
            due("12 never anew, kind " + kind, x.heard(0, 0, 1), 1);
        }
        // Anew only if what it needs is there: at bend 3 lesson 0 is 3 behind, and a LIGHT of 1.
        SchoolOnRaft x = one(2, 1);
        x.lesson(2, 0, 1);
        plan(x, 0, 0, 1, -1, 1, -1, -1);
        due("12 not anew without its need", x.heard(0, 1, 1), 1);
        x.give(0, 2, 0);
        due("12 anew with its need", x.heard(0, 1, 1), 3);
    }

    /** One child that hears lesson 3 by what is known at bend 3, where LIGHTs of 1 .. 3 have been given at 0, 1, 2. */
    private static void known() {
        for (int number = 0; number < 4; number++) {
            for (int asked = 0; asked < 5; asked++) {
                SchoolOnRaft x = ruled("hears bend<3 or known=" + asked + ";worth 0;runs 1;");
                for (int lesson = 0; lesson < 3; lesson++) {
                    x.lesson(2, number, 0);
                }
                x.lesson(0, 0, 0);
                x.child(5, 9);
                plan(x, 0, 0, 1, 2, 3);
                // At bend 3 they are 3, 2 and 1 behind.
                due("12 known of LIGHTs of " + number + " is " + asked, x.heard(0, 3, 0), asked == number ? 1 : 0);
            }
        }
        // The lesson given at that bend does not count yet, nor does it when it is there already twice.
        SchoolOnRaft x = ruled("hears known=bend;worth 0;runs 1;");
        x.lesson(0, 0, 0);
        x.child(5, 9);
        plan(x, 0, 0, 0, 0, 0, 0, 0);
        due("12 known is 0 at 0, 1 at 1, 1 at 2", x.heard(0, 0, 0), 2);
        // known of worth: all that the child has at the end, that lesson too.
        x = ruled("hears 1;worth known*10;runs 1;");
        x.lesson(2, 0, 0);
        x.lesson(0, 0, 0);
        x.child(5, 9);
        plan(x, 0, 0, 1, -1, -1, -1, -1);
        due("13 known is 1 when one is forgotten", x.points(0), 10 + 10);
        x.give(0, 5, 0);
        due("13 known is 2", x.points(0), 10 + 20 + 5 + 20);
    }

    private static void often() {
        for (int bound = 0; bound < 8; bound++) {
            SchoolOnRaft x = ruled("hears often<" + bound + ";worth 0;runs 1;");
            x.lesson(0, 0, 0);
            x.child(5, 9);
            plan(x, 0, 0, 0, 0, 0, 0, 0);
            due("12 often below " + bound, x.heard(0, 0, 0), Math.min(bound, 6));
        }
        SchoolOnRaft x = ruled("hears 1;worth often;runs 1;");
        x.lesson(0, 0, 0);
        x.child(5, 9);
        plan(x, 0, 0, 0, 0, 0, 0, 0);
        due("13 often in all, also behind the understanding", x.points(0), 16);
        x.set(2, 0, 5);
        due("13 often is 1", x.points(0), 11);
    }

    private static void noLesson() {
        SchoolOnRaft x = one(0, 0);
        for (int bend = 0; bend < 6; bend++) {
            due("11 none given", x.has(0, bend), 0);
        }
        due("12 none heard", x.heard(0, 0, 0), 0);
        due("12 none understood", x.heard(0, 0, 1), NONE);
        due("27 none at any bend", x.count(2), 0);
        plan(x, 1, 0, 0, 0, 0, 0, 0);
        due("11 THE OTHER PLAN is of another raft", x.has(0, 5), 0);
        due("27 nor does it count", x.count(2), 0);
    }

    private static void row(String what, SchoolOnRaft x, int points, int... lessons) {
        due("14 " + what + ": POINTS", x.best(0), points);
        for (int bend = 0; bend < 6; bend++) {
            due("14 " + what + ": at " + bend, x.best(bend + 1), lessons[bend]);
        }
    }

    private static void bestTies() {
        SchoolOnRaft x = one(0, 0);
        row("as late as can be", x, 10, -1, -1, -1, -1, -1, 0);
        x.lesson(0, 0, 0);
        row("two like ones: 0 ahead of 1", x, 20, -1, -1, -1, -1, 0, 1);
        x.set(2, 0, 5);
        row("two like ones, and one bend", x, 10, -1, -1, -1, -1, -1, 0);
        x.set(0, 1, 1);
        row("the better one", x, 11, -1, -1, -1, -1, -1, 1);
        x.child(44, 9);
        row("two children, two bends", x, 22, -1, -1, -1, -1, 1, 1);
        x.child(0, 9);
        row("three children, three bends", x, 33, 1, -1, -1, -1, 1, 1);
        // One bend for all of them: it is enough for all.
        x = one(0, 0);
        x.child(24, 9);
        x.child(3, 9);
        row("where all are aboard", x, 30, -1, -1, -1, 0, -1, -1);
        // What must be heard thrice, at the latest three bends.
        x = one(1, 2);
        row("thrice", x, 24, -1, -1, -1, 0, 0, 0);
        x.set(2, 0, 3);
        row("thrice, just aboard", x, 24, -1, -1, -1, 0, 0, 0);
        x.set(2, 0, 4);
        row("thrice, not long enough aboard", x, 0, -1, -1, -1, -1, -1, -1);
    }

    private static void bestBounds() {
        SchoolOnRaft x = ruled("hears 1;worth -99;runs 1;");
        x.lesson(0, 9, 0);
        x.child(5, 9);
        row("nothing is worth anything", x, 0, -1, -1, -1, -1, -1, -1);
        x = ruled("hears 0;worth 99;runs 1;");
        x.lesson(0, 9, 0);
        x.child(5, 9);
        row("nobody hears", x, 0, -1, -1, -1, -1, -1, -1);
        x = ruled("hears bend=0 or bend=5;worth often;runs 1;");
        x.lesson(0, 0, 0);
        x.child(5, 9);
        row("the first and the last bend", x, 12, 0, -1, -1, -1, -1, 0);
        x = ruled("hears 1;worth often;runs 1;");
        x.lesson(0, 0, 0);
        x.child(5, 9);
        row("all bends", x, 16, 0, 0, 0, 0, 0, 0);
        x = ruled("hears 1;worth (often=6)*50;runs 1;");
        x.lesson(0, 0, 0);
        x.lesson(0, 0, 0);
        x.child(5, 9);
        row("all bends are better than one and another", x, 60, 0, 0, 0, 0, 0, 0);
        // Lesson 1 must be heard twice, but isn't heard by one who has heard it once and knows nothing.
        x = ruled("hears known or not often;worth 0;runs 1;");
        x.lesson(0, 0, 0);
        x.lesson(1, 1, 0);
        x.child(1, 9);
        row("too short for both", x, 10, -1, 0, -1, -1, -1, -1);
        x.set(3, 0, 2);
        row("what is known first helps", x, 32, 0, 1, 1, -1, -1, -1);
        // Four lessons, six children, and each bend counts.
        x = ruled("hears bend=lesson+1;worth 0;runs 1;");
        for (int lesson = 0; lesson < 4; lesson++) {
            x.lesson(0, lesson, 0);
        }
        for (int child = 0; child < 6; child++) {
            x.child(5, 9);
        }
        row("four lessons, six children", x, 6 * 46, -1, 0, 1, 2, 3, -1);
    }

    private static void layChanges() {
        SchoolOnRaft x = one(0, 0);
        plan(x, 0, 0, 0, 0, 0, 0, 0);
        plan(x, 1, 0, 0, 0, 0, 0, 0);
        due("15 POINTS", x.lay(), 10);
        for (int bend = 0; bend < 6; bend++) {
            due("15 THE PLAN at " + bend, x.given(0, bend), bend == 5 ? 0 : -1);
            due("15 THE OTHER PLAN at " + bend, x.given(1, bend), 0);
        }
        due("15 POINTS again", x.lay(), 10);
        due("13 POINTS", x.points(NONE), 10);
        // A plan of as many POINTS goes, too.
        plan(x, 0, 0, -1, -1, -1, -1, -1);
        due("15 as many", x.lay(), 10);
        due("15 but the first row", x.given(0, 0), NONE);
    }

    private static void run(String what, SchoolOnRaft x, int child, int lessons, int cost, int on, int off) {
        due("16 " + what + ": cost", x.run(child, lessons, 0), cost);
        due("16 " + what + ": ON", x.run(child, lessons, 1), on);
        due("16 " + what + ": OFF", x.run(child, lessons, 2), off);
    }

    private static void runBounds() {
        for (int bend = 0; bend < 6; bend++) {
            // Child 0 is aboard all the way, child 1 at bend 0, child 2 at bend 5, child 3 from 2 to 3.
            SchoolOnRaft x = one(0, 0);
            x.child(0, 9);
            x.child(55, 9);
            x.child(23, 9);
            x.give(0, bend, 0);
            run("0 .. 5, given at " + bend, x, 0, 1, 0, 0, 5);
            run("0 .. 0, given at " + bend, x, 1, 1, bend, 0, bend);
            run("5 .. 5, given at " + bend, x, 2, 1, 5 - bend, bend, 5);
            int ahead = Math.max(0, 2 - bend);
            int after = Math.max(0, bend - 3);
            run("2 .. 3, given at " + bend, x, 3, 1, ahead + after, 2 - ahead, 3 + after);
            run("no lessons", x, 3, 0, 0, 2, 3);
        }
        SchoolOnRaft x = one(0, 0);
        run("never given", x, 0, 1, NONE, NONE, NONE);
        // A LIGHT of 1 that is given at 2 is gone at the end, and comes anew by one that is given at 4.
        x = ruled("hears 1;worth 0;runs 99;");
        x.lesson(2, 1, 0);
        x.child(23, 9);
        plan(x, 0, -1, -1, 0, -1, -1, -1);
        run("kept too shortly, wherever it is aboard", x, 0, 1, NONE, NONE, NONE);
        x.give(0, 4, 0);
        run("one bend more", x, 0, 1, 99, 2, 4);
        // ON is never more: who comes at 3 hears it at 5 and has it yet, but who comes at 2 hears it there and never again.
        x = ruled("hears often=0;worth 0;runs 1;");
        x.lesson(2, 0, 0);
        x.child(25, 9);
        plan(x, 0, -1, -1, 0, -1, -1, 0);
        run("ON is never more", x, 0, 1, NONE, NONE, NONE);
        x.set(2, 0, 3);
        run("ON as it is", x, 0, 1, 0, 3, 5);
        // OFF is never less: a SONG of 0 from 3 is there at 5, but it is gone at 4 and comes anew, from where it is gone at 5.
        x = one(4, 0);
        x.set(2, 0, 3);
        x.set(3, 0, 4);
        plan(x, 0, -1, -1, -1, 0, 0, -1);
        run("OFF is never less", x, 0, 1, NONE, NONE, NONE);
        x.set(3, 0, 3);
        run("OFF as it is", x, 0, 1, 0, 3, 3);
        // HAVE all of these, and others too.
        x = one(0, 0);
        x.lesson(0, 0, 0);
        x.child(33, 9);
        plan(x, 0, -1, 0, -1, 1, -1, -1);
        run("lesson 1", x, 1, 2, 0, 3, 3);
        run("lesson 0, and 1 as well", x, 1, 1, 2, 1, 3);
        run("both", x, 1, 3, 2, 1, 3);
    }

    private static void runTies() {
        // At 1 and at 5 it costs 1 bend each: the least ON.
        SchoolOnRaft x = one(0, 0);
        x.child(24, 9);
        plan(x, 0, -1, 0, -1, -1, -1, 0);
        run("ahead or after, alike", x, 1, 1, 1, 1, 4);
        x.set(2, 1, 3);
        run("after is nearer", x, 1, 1, 1, 3, 5);
        // What costs nothing: as much ON ahead as can be, and no OFF more.
        x = ruled("hears 1;worth 0;runs 0;");
        x.lesson(0, 0, 0);
        x.child(33, 9);
        x.give(0, 4, 0);
        run("for nothing", x, 0, 1, 0, 0, 4);
        run("for nothing, none told", x, 0, 0, 0, 0, 3);
        x = ruled("hears 1;worth 0;runs bend<3;");
        x.lesson(0, 0, 0);
        x.child(33, 9);
        plan(x, 0, -1, -1, 0, -1, -1, 0);
        run("for nothing behind", x, 0, 1, 0, 3, 5);
    }

    private static void twice(String what, SchoolOnRaft x, int lesson, int bend, int points) {
        due("17 " + what + ": BEND", x.twice(lesson, 0), bend);
        due("17 " + what + ": POINTS", x.twice(lesson, 1), points);
    }

    private static void twiceBounds() {
        for (int bend = 0; bend < 6; bend++) {
            SchoolOnRaft x = new SchoolOnRaft();
            x.lesson(0, 0, 0);
            x.child(11 * bend, 9);
            twice("at bend " + bend + " alone", x, 0, bend, 10);
            x.give(0, bend, 0);
            twice("as many as now", x, 0, NONE, NONE);
        }
        SchoolOnRaft x = one(0, 1);
        x.lesson(0, 0, 0);
        twice("of like ones the first", x, 0, 0, 11);
        plan(x, 0, 1, 1, -1, -1, -1, -1);
        twice("instead of what is there twice", x, 0, 0, 21);
        plan(x, 0, 1, -1, -1, -1, -1, -1);
        twice("not instead of what is there once", x, 0, 1, 21);
        plan(x, 0, 0, 0, 0, 0, 0, 0);
        twice("instead, where all are the other", x, 1, 0, 21);
        // One point more is more.
        x = new SchoolOnRaft();
        x.lesson(0, 0, 0);
        x.lesson(0, 1, 0);
        x.lesson(0, 0, 0);
        x.child(0, 9);
        x.give(0, 0, 0);
        twice("one point more", x, 1, 0, 11);
        twice("as many", x, 2, NONE, NONE);
        x.give(0, 0, 1);
        twice("one point less", x, 0, NONE, NONE);
        // Of all, not of one: the last bend, where two are aboard.
        x = one(0, 0);
        x.set(3, 0, 0);
        x.child(55, 9);
        x.child(45, 9);
        twice("where most are", x, 0, 5, 20);
    }

    private static void changeBounds() {
        for (int on = 0; on < 6; on++) {
            for (int off = on; off < 6; off++) {
                SchoolOnRaft x = new SchoolOnRaft();
                x.lesson(0, 0, 0);
                x.child(10 * on + off, 9);
                due("18 the first of like ones: ON", x.change(0, NONE), on);
                for (int bend = 0; bend < 6; bend++) {
                    due("18 aboard at " + bend, x.change(0, bend), on <= bend && bend <= off ? 0 : BAD);
                }
                // At c THE PLAN holds yet.
                x.give(0, off, 0);
                due("18 up to its OFF", x.change(0, off), 10);
                due("18 up to its OFF alone", x.change(0, NONE), off);
                due("18 behind an earlier c", on == off ? 0 : x.change(0, off - 1), 0);
                x.give(1, off, 0);
                due("18 then by either", x.change(0, NONE), on);
                x.give(0, off, -1);
                due("18 at c not THE OTHER PLAN", x.change(0, off), 0);
                due("18 behind c THE OTHER PLAN", on == off ? 10 : x.change(0, off - 1), 10);
                x.give(1, off, -1);
                x.give(1, on, 0);
                due("18 THE OTHER PLAN at its ON never holds", x.change(0, NONE), on);
                due("18 so it is worth nothing", x.change(0, on), 0);
            }
        }
    }

    private static void examBounds() {
        SchoolOnRaft x = one(2, 1);
        x.give(0, 2, 0);
        // HAS it at 2 and 3.
        int[] truth = {0, 0, 1, 1, 0, 0};
        for (int sort = 0; sort < 3; sort++) {
            row(x, sort, sort, truth);
            due("19 all six as it is", x.exam(0, sort), NONE);
            for (int bend = 5; bend >= 0; bend--) {
                x.cell(sort, bend, 1 - truth[bend]);
                due("19 otherwise from " + bend + " on", x.exam(0, sort), bend);
            }
            row(x, sort, sort, truth);
            for (int bend = 0; bend < 6; bend++) {
                for (int v : new int[] {2, 3, 16 + truth[bend], -1, truth[bend] - 128, Integer.MIN_VALUE >> 24 - 8 * sort}) {
                    x.cell(sort, bend, v);
                    due("19 " + v + " at " + bend + " of sort " + sort, x.exam(0, sort), bend);
                }
                x.cell(sort, bend, truth[bend]);
            }
        }
    }

    private static void aboardBounds() {
        for (int on = 0; on < 6; on++) {
            for (int off = on; off < 6; off++) {
                // A LIGHT of 0 is had at that bend alone at which it is heard, so that each of these shows.
                SchoolOnRaft x = new SchoolOnRaft();
                x.lesson(2, 0, 0);
                x.child(10 * on + off, 9);
                plan(x, 0, 0, 0, 0, 0, 0, 0);
                row(x, 0, 0, x.has(0, 0), x.has(0, 1), x.has(0, 2), x.has(0, 3), x.has(0, 4), x.has(0, 5));
                due("20 one alone", x.aboard(0, 0, 0), 1);
                due("20 it is " + on + " .. " + off, x.aboard(0, 0, 1), 10 * on + off);
                x.set(2, 0, 0);
                x.set(3, 0, 0);
                due("20 whatever its own are", x.aboard(0, 0, 1), 10 * on + off);
            }
        }
        SchoolOnRaft x = one(0, 0);
        row(x, 0, 2, 0, 0, 0, 0, 0, 0);
        due("20 all 21", x.aboard(0, 0, 0), 21);
        due("20 the first is 0", x.aboard(0, 0, 1), 0);
        x.give(0, 0, 0);
        due("20 those that begin behind 0", x.aboard(0, 0, 0), 15);
        due("20 the first of them", x.aboard(0, 0, 1), 11);
        plan(x, 0, 0, 0, 0, 0, 0, -1);
        due("20 the last bend alone", x.aboard(0, 0, 0), 1);
        due("20 the last bend alone, which", x.aboard(0, 0, 1), 55);
        // By the first ON, then OFF: 2 .. 3 ahead of 2 .. 4.
        x = one(0, 0);
        x.give(0, 3, 0);
        row(x, 0, 1, 0, 0, 0, 1, 1, 1);
        due("20 by ON, then OFF", x.aboard(0, 0, 1), 3);
        due("20 with 3 among them", x.aboard(0, 0, 0), 12);
    }

    private static void together() {
        SchoolOnRaft x = new SchoolOnRaft();
        for (int lesson = 0; lesson < 4; lesson++) {
            x.lesson(0, 0, 0);
        }
        due("21 nobody", x.together(0) + x.together(1) + x.together(2), 0);
        for (int child = 0; child < 6; child++) {
            x.child(11 * child, 9);
        }
        due("21 six children who have nothing: none must meet", x.together(1), 0);
        plan(x, 0, 0, 1, 2, 3, 3, 3);
        due("21 all four", x.together(0), 15);
        due("21 the least of like ones", x.together(1), 15);
        due("21 four", x.together(2), 4);
        due("22 by three", x.known(3), 8 + 16 + 32);
        x.give(0, 5, 2);
        due("21 the least of like ones yet", x.together(1), 15);
        plan(x, 0, -1, -1, -1, -1, -1, 3);
        due("21 the last child alone", x.together(1), 32);
        due("21 is one", x.together(2), 1);
        due("22 the last child alone", x.known(3), 32);
        due("22 nobody", x.known(0), 0);
    }

    private static void meetTies() {
        SchoolOnRaft x = new SchoolOnRaft();
        x.lesson(0, 0, 0);
        x.lesson(0, 0, 0);
        x.lesson(0, 0, 0);
        x.child(22, 9);
        x.child(11, 9);
        x.child(0, 9);
        x.child(12, 9);
        x.child(1, 9);
        plan(x, 0, 0, 1, 2, -1, -1, -1);
        // Child 0 has 2, child 1 has 1, child 2 has 0, child 3 has 1 and 2, child 4 has 0 and 1: three pairs have all.
        due("21 two of them", x.together(2), 2);
        due("21 children 2 and 3 rather than 0 and 4, or 3 and 4", x.together(1), 4 + 8);
        x.child(2, 9);
        due("21 one alone, though the last", x.together(1), 32);
        due("21 one", x.together(2), 1);
        x.set(2, 0, 0);
        due("21 the first alone", x.together(1), 1);
    }

    /** The water that a bend stands: no flood takes its lesson if the water is that or less. */
    private static int stands(int seed, int bend) {
        long z = seed;
        for (int k = 0; k <= bend; k++) {
            z = (z * 1103515245L + 12345L) % 4294967296L;
        }
        return (int) (Math.floorMod(z, 4294967296L) / 2048 % 10);
    }

    private static void drawnBelowWater() {
        for (int bend = 0; bend < 6; bend++) {
            SchoolOnRaft x = one(0, 0);
            x.give(0, bend, 0);
            for (int seed : new int[] {0, 1, -1, 7, 11, 2048, 65535, -65536}) {
                int stands = stands(seed, bend);
                for (int water = 0; water <= 10; water++) {
                    due("23 seed " + seed + ", bend " + bend + ", water " + water, x.drawn(seed, water), stands < water ? 0 : 10);
                }
            }
        }
    }

    private static void drawnSeeds() {
        SchoolOnRaft x = new SchoolOnRaft();
        x.lesson(0, 0, 0);
        for (int bend = 0; bend < 6; bend++) {
            x.child(11 * bend, 9);
        }
        plan(x, 0, 0, 0, 0, 0, 0, 0);
        for (int seed : new int[] {Integer.MIN_VALUE, Integer.MIN_VALUE + 1, -1, 0, 1, Integer.MAX_VALUE - 1, Integer.MAX_VALUE}) {
            for (int water = 0; water <= 10; water++) {
                int points = 0;
                for (int bend = 0; bend < 6; bend++) {
                    points += stands(seed, bend) < water ? 0 : 10;
                }
                due("23 seed " + seed + ", water " + water, x.drawn(seed, water), points);
            }
            due("23 no water", x.drawn(seed, 0), 60);
            due("23 all water", x.drawn(seed, 10), 0);
        }
    }

    private static void chanceSeeds() {
        for (int seed : new int[] {Integer.MIN_VALUE, -10, -1, 0, 5, Integer.MAX_VALUE - 7, Integer.MAX_VALUE}) {
            SchoolOnRaft x = one(0, 0);
            x.child(25, 9);
            x.child(2, 9);
            x.give(0, 2, 0);
            for (int n = 1; n <= 20; n++) {
                int lucky = 0;
                for (int k = 0; k < n; k++) {
                    lucky += stands(seed + k, 2) < 5 ? 0 : 1;
                }
                long above = x.chance(seed, n, 5, 0, 0);
                long below = x.chance(seed, n, 5, 0, 1);
                due("24 " + n + " seeds from " + seed, above * n, below * lucky);
                long common = java.math.BigInteger.valueOf(above).gcd(java.math.BigInteger.valueOf(below)).longValue();
                due("24 in lowest terms", common, 1);
            }
        }
        // All must have it: one child that is never aboard then is enough for none.
        SchoolOnRaft x = one(0, 0);
        x.give(0, 2, 0);
        due("24 all have it", x.chance(3, 20, 0, 0, 0), 1);
        x.child(33, 9);
        due("24 one hasn't", x.chance(3, 20, 0, 0, 0), 0);
        due("24 one hasn't, below", x.chance(3, 20, 0, 0, 1), 1);
        x.give(0, 3, 0);
        due("24 all have it again", x.chance(3, 20, 0, 0, 0), 1);
    }

    private static void chanceTerms() {
        SchoolOnRaft x = one(0, 0);
        x.give(0, 0, 0);
        for (int n = 1; n <= 20; n++) {
            due("24 " + n + " of " + n, x.chance(0, n, 0, 0, 0), 1);
            due("24 " + n + " of " + n + ", below", x.chance(0, n, 0, 0, 1), 1);
            due("24 0 of " + n, x.chance(0, n, 10, 0, 0), 0);
            due("24 0 of " + n + ", below", x.chance(0, n, 10, 0, 1), 1);
        }
    }

    private static void imageKeeps() {
        SchoolOnRaft x = one(2, 3);
        x.lesson(0, 4, 1);
        plan(x, 0, 0, 1);
        plan(x, 1, 1, 0);
        read(x, "hears 1;worth 1;runs 1;");
        read(x, "hears 1;worth 2;runs 1;");
        x.force(1);
        due("25 how many", x.image(), 1);
        x.set(0, 0, 9);
        x.set(1, 1, 0);
        x.set(2, 0, 3);
        x.set(3, 0, 3);
        x.set(4, 0, 14);
        x.give(0, 5, 0);
        x.give(1, 0, 0);
        x.force(2);
        x.lay();
        x.child(5, 5);
        x.lesson(0, 0, 0);
        due("26 how many", x.back(), 1);
        due("26 NUMBER", x.told(0, 1), 3);
        due("26 NEEDS", x.told(1, 2), 1);
        due("26 ON", x.told(0, 5), 0);
        due("26 OFF", x.told(0, 6), 5);
        due("26 AGE", x.told(0, 7), 9);
        due("26 THE RULE", x.count(5), 1);
        for (int bend = 0; bend < 6; bend++) {
            due("26 THE PLAN at " + bend, x.given(0, bend), bend < 2 ? bend : NONE);
            due("26 THE OTHER PLAN at " + bend, x.given(1, bend), bend < 2 ? 1 - bend : NONE);
        }
        due("26 CHILDREN", x.count(1), 1);
        due("26 LESSONS", x.count(0), 2);
        due("26 a LESSON that is gone", x.give(0, 0, 2), BAD);
        due("26 a CHILD that is gone", x.has(1, 0), BAD);
    }

    /** An image of a full board: all that can be set, of each lesson and child, and each bend of both plans. */
    private static void imageKeepsAll() {
        SchoolOnRaft x = new SchoolOnRaft();
        for (int lesson = 0; lesson < 4; lesson++) {
            x.lesson(lesson, 9 - lesson, (1 << lesson) - 1);
        }
        for (int child = 0; child < 6; child++) {
            x.child(11 * child, 5 + child);
        }
        for (int bend = 0; bend < 6; bend++) {
            x.give(0, bend, bend % 4);
            x.give(1, bend, 3 - bend % 4);
        }
        due("25 of a full board", x.image(), 6);
        for (int lesson = 0; lesson < 4; lesson++) {
            x.set(0, lesson, 0);
            x.set(1, lesson, 0);
        }
        for (int child = 0; child < 6; child++) {
            x.set(2, child, 0);
            x.set(3, child, 5);
            x.set(4, child, 14);
        }
        for (int bend = 0; bend < 6; bend++) {
            x.give(0, bend, -1);
            x.give(1, bend, -1);
        }
        due("26 of a full board", x.back(), 6);
        for (int lesson = 0; lesson < 4; lesson++) {
            due("26 KIND of " + lesson, x.told(lesson, 0), lesson);
            due("26 NUMBER of " + lesson, x.told(lesson, 1), 9 - lesson);
            due("26 NEEDS of " + lesson, x.told(lesson, 2), (1 << lesson) - 1);
        }
        for (int child = 0; child < 6; child++) {
            due("26 ON of " + child, x.told(child, 5), child);
            due("26 OFF of " + child, x.told(child, 6), child);
            due("26 AGE of " + child, x.told(child, 7), 5 + child);
        }
        for (int bend = 0; bend < 6; bend++) {
            due("26 THE PLAN at " + bend, x.given(0, bend), bend % 4);
            due("26 THE OTHER PLAN at " + bend, x.given(1, bend), 3 - bend % 4);
        }
    }

    private static void imageLetsGo() {
        SchoolOnRaft x = one(0, 0);
        x.image();
        // Texts, the tape and sheets are none of what an image keeps.
        read(x, "hears 1;worth 1;runs 1;");
        tape(x, "hears");
        row(x, 0, 1, 0, 0, 0, 0, 0, 0);
        // A lesson and a child that came since are given and are gone.
        x.lesson(3, 9, 1);
        x.child(55, 14);
        plan(x, 0, 1, 1, 1, 1, 1, 1);
        plan(x, 1, 1, 1, 1, 1, 1, 1);
        x.force(1);
        due("26 back", x.back(), 1);
        due("26 texts stay", x.count(3), 2);
        due("26 the tape stays", x.count(4), 5);
        due("26 sheets stay", x.exam(0, 0), NONE);
        due("26 no lesson is given", x.count(2), 0);
        due("26 nor by the other", x.given(1, 5), NONE);
        due("26 THE RULE", x.force(1), 0);
        // Those that come then begin anew.
        due("2 a new lesson", x.lesson(4, 1, 0), 1);
        due("5 its kind", x.told(1, 0), 4);
        due("5 its number", x.told(1, 1), 1);
        due("5 its needs", x.told(1, 2), 0);
        due("3 a new child", x.child(12, 6), 1);
        due("5 its age", x.told(1, 7), 6);
        // The image stays as it is when what it was taken of changes, and may be laid back again.
        due("26 back again", x.back(), 1);
        due("26 lessons again", x.count(0), 1);
        // Children who are gone have nothing any more, and none of them must meet.
        x = one(0, 0);
        x.lesson(0, 0, 0);
        x.set(3, 0, 0);
        plan(x, 0, 0, 1);
        x.image();
        x.child(11, 9);
        due("21 both lessons", x.together(0), 3);
        due("21 both children", x.together(1), 3);
        due("26 one child again", x.back(), 1);
        due("21 one lesson", x.together(0), 1);
        due("21 one child", x.together(1), 1);
        due("22 of one child", x.known(1), 0);
        due("24 of one child", x.chance(0, 1, 0, 0, 0), 1);
        // An image of nothing.
        x = new SchoolOnRaft();
        due("25 of a new object", x.image(), 0);
        x.lesson(0, 0, 0);
        for (int k = 0; k < 6; k++) {
            x.child(5, 9);
        }
        due("25 back to a new object", x.back(), 0);
        due("26 no lessons", x.count(0) + x.count(1), 0);
        for (int k = 0; k < 6; k++) {
            x.child(5, 9);
        }
        due("25 of six children", x.image(), 6);
        due("26 of six children", x.back(), 6);
    }

    private static void taken() {
        String[] may = {"100000", "110000", "101000", "110100", "101010", "110001"};
        for (int kind = 0; kind < 6; kind++) {
            for (int number = 0; number < 10; number += 9) {
                for (int k = 0; k < 6; k++) {
                    due("32 kind " + kind + " for " + k, one(kind, number).taken(0, k), may[kind].charAt(k) == '1' ? number : UNLIKE);
                }
            }
        }
    }

    private static void counts() {
        SchoolOnRaft x = new SchoolOnRaft();
        for (int lesson = 0; lesson < 4; lesson++) {
            due("27 lessons", x.count(0), lesson);
            due("2 numbered from 0", x.lesson(0, 0, 0), lesson);
        }
        due("27 four lessons", x.count(0), 4);
        for (int child = 0; child < 6; child++) {
            due("27 children", x.count(1), child);
            due("3 numbered from 0", x.child(5, 9), child);
        }
        due("27 six children", x.count(1), 6);
        for (int bend = 0; bend < 6; bend++) {
            due("27 bends", x.count(2), bend);
            x.give(0, bend, 3 - bend % 4);
        }
        due("27 six bends", x.count(2), 6);
        x.give(0, 5, -1);
        due("27 five again", x.count(2), 5);
    }
}
