/** For each promise of the document: ordinary inputs, the edges it names, and wrong inputs; answers worked out by hand. */
public final class PromisesTest extends Checks {
    public static void main(String[] args) {
        newObject();
        lessons();
        kindsTell();
        childrenCome();
        setting();
        plans();
        feeding();
        texts();
        faults();
        deepTexts();
        namesInTexts();
        signsInTexts();
        bounds();
        spring();
        forgetting();
        needing();
        heardTwice();
        points();
        best();
        bestIsFresh();
        run();
        twice();
        change();
        exam();
        aboard();
        together();
        drawn();
        chance();
        image();
        counting();
        sheets();
        copying();
        childrenBySheet();
        taken();
        close("all promises hold");
    }

    private static void newObject() {
        SchoolOnRaft x = new SchoolOnRaft();
        due("1 lessons", x.count(0), 0);
        due("1 children", x.count(1), 0);
        due("1 bends", x.count(2), 0);
        due("1 texts", x.count(3), 1);
        due("1 tape", x.count(4), 0);
        due("1 rule", x.count(5), 0);
        for (int bend = 0; bend < 6; bend++) {
            due("1 plan", x.given(0, bend), NONE);
            due("1 other plan", x.given(1, bend), NONE);
        }
        for (int sheet = 0; sheet < 4; sheet++) {
            due("1 sheet", x.cell(sheet, 0, 0), NOTHING);
        }
        due("1 image", x.back(), STATE);
        due("1 told lesson", x.told(0, 0), BAD);
        due("1 told child", x.told(0, 5), BAD);
        due("1 points", x.points(NONE), 0);
        due("1 points of none", x.points(0), BAD);
    }

    private static void lessons() {
        SchoolOnRaft x = new SchoolOnRaft();
        due("2 kind below", x.lesson(-1, 0, 0), BAD);
        due("2 kind above", x.lesson(6, 0, 0), BAD);
        due("2 number below", x.lesson(0, -1, 0), BAD);
        due("2 number above", x.lesson(0, 10, 0), BAD);
        due("2 needs itself", x.lesson(0, 0, 1), BAD);
        due("2 first", x.lesson(5, 9, 0), 0);
        due("2 needs later", x.lesson(0, 0, 2), BAD);
        due("2 needs sign", x.lesson(0, 0, Integer.MIN_VALUE), BAD);
        due("2 second", x.lesson(0, 0, 1), 1);
        due("2 third", x.lesson(4, 5, 3), 2);
        due("2 fourth", x.lesson(1, 5, 7), 3);
        due("2 count", x.count(0), 4);
        due("2 full", x.lesson(1, 5, 15), FULL);
        due("2 bad ahead of full", x.lesson(1, 5, 16), BAD);
        due("2 bad kind ahead of full", x.lesson(6, 5, 0), BAD);
        due("2 kind kept", x.told(0, 0), 5);
        due("2 number kept", x.told(0, 1), 9);
        due("2 needs kept", x.told(3, 2), 7);
    }

    private static void kindsTell() {
        // Rows: TIMES, POINTS of each kind for the numbers 0, 1, 5, 8, 9.
        int[] numbers = {0, 1, 5, 8, 9};
        int[][] times = {{1, 1, 1, 1, 1}, {1, 2, 3, 3, 1}, {1, 1, 1, 1, 1}, {2, 3, 4, 4, 2}, {1, 2, 2, 1, 2}, {1, 2, 3, 3, 1}};
        int[][] points = {{10, 11, 15, 18, 19}, {20, 22, 30, 36, 38}, {5, 6, 10, 13, 14}, {20, 23, 35, 44, 47},
            {2, 3, 5, 6, 7}, {27, 29, 37, 43, 45}};
        for (int kind = 0; kind < 6; kind++) {
            SchoolOnRaft x = new SchoolOnRaft();
            x.lesson(kind, 3, 0);
            due("5 kind", x.told(0, 0), kind);
            for (int k = 0; k < numbers.length; k++) {
                x.set(0, 0, numbers[k]);
                due("5 times of kind " + kind + ", " + numbers[k], x.told(0, 3), times[kind][k]);
                due("5 points of kind " + kind + ", " + numbers[k], x.told(0, 4), points[kind][k]);
            }
        }
        SchoolOnRaft x = new SchoolOnRaft();
        x.lesson(0, 1, 0);
        x.child(13, 8);
        due("5 on", x.told(0, 5), 1);
        due("5 off", x.told(0, 6), 3);
        due("5 age", x.told(0, 7), 8);
        due("5 what below", x.told(0, -1), BAD);
        due("5 what above", x.told(0, 8), BAD);
        due("5 lesson below", x.told(-1, 0), BAD);
        due("5 lesson above", x.told(1, 4), BAD);
        due("5 child below", x.told(-1, 5), BAD);
        due("5 child above", x.told(1, 7), BAD);
    }

    private static void childrenCome() {
        SchoolOnRaft x = new SchoolOnRaft();
        int[] bad = {-1, -10, 6, 9, 10, 16, 21, 54, 56, 60, 65, 66, 100, 505, Integer.MAX_VALUE, Integer.MIN_VALUE};
        for (int what : bad) {
            due("3 what " + what, x.child(what, 9), BAD);
        }
        due("3 age below", x.child(5, 4), BAD);
        due("3 age above", x.child(5, 15), BAD);
        due("3 first", x.child(0, 5), 0);
        due("3 second", x.child(55, 14), 1);
        due("3 third", x.child(25, 10), 2);
        for (int k = 3; k < 6; k++) {
            due("3 more", x.child(33, 10), k);
        }
        due("3 full", x.child(33, 10), FULL);
        due("3 bad ahead of full", x.child(32, 10), BAD);
        due("3 age ahead of full", x.child(33, 15), BAD);
        due("3 on", x.told(2, 5), 2);
        due("3 off", x.told(2, 6), 5);
    }

    private static void setting() {
        SchoolOnRaft x = new SchoolOnRaft();
        x.lesson(0, 4, 0);
        x.lesson(0, 5, 1);
        x.child(24, 7);
        due("4 number", x.set(0, 0, 9), 4);
        due("4 number again", x.set(0, 0, 0), 9);
        due("4 number below", x.set(0, 0, -1), BAD);
        due("4 number above", x.set(0, 0, 10), BAD);
        due("4 needs", x.set(1, 1, 0), 1);
        due("4 needs again", x.set(1, 1, 1), 0);
        due("4 needs itself", x.set(1, 1, 2), BAD);
        due("4 needs of the first", x.set(1, 0, 1), BAD);
        due("4 needs sign", x.set(1, 1, -1), BAD);
        due("4 no needs of the first", x.set(1, 0, 0), 0);
        due("4 on", x.set(2, 0, 4), 2);
        due("4 on behind off", x.set(2, 0, 5), BAD);
        due("4 on below", x.set(2, 0, -1), BAD);
        due("4 off ahead of on", x.set(3, 0, 3), BAD);
        due("4 off", x.set(3, 0, 5), 4);
        due("4 off above", x.set(3, 0, 6), BAD);
        due("4 on again", x.set(2, 0, 5), 4);
        due("4 age", x.set(4, 0, 14), 7);
        due("4 age below", x.set(4, 0, 4), BAD);
        due("4 age above", x.set(4, 0, 15), BAD);
        due("4 what below", x.set(-1, 0, 0), BAD);
        due("4 what above", x.set(5, 0, 0), BAD);
        due("4 no lesson", x.set(0, 2, 0), BAD);
        due("4 no lesson below", x.set(1, -1, 0), BAD);
        due("4 no child", x.set(4, 1, 5), BAD);
        due("4 no child below", x.set(2, -1, 0), BAD);
        due("4 on stands", x.told(0, 5), 5);
        due("4 off stands", x.told(0, 6), 5);
        due("4 age stands", x.told(0, 7), 14);
        due("4 number stands", x.told(0, 1), 0);
        due("4 needs stands", x.told(1, 2), 1);
    }

    private static void plans() {
        SchoolOnRaft x = new SchoolOnRaft();
        due("6 no lesson yet", x.give(0, 0, 0), BAD);
        due("6 none", x.give(0, 0, -1), NONE);
        x.lesson(0, 0, 0);
        x.lesson(0, 1, 0);
        due("6 first", x.give(0, 5, 1), NONE);
        due("6 other", x.give(1, 5, 0), NONE);
        due("6 was", x.give(0, 5, 0), 1);
        due("6 off", x.give(1, 5, -1), 0);
        due("6 raft below", x.give(-1, 0, 0), BAD);
        due("6 raft above", x.give(2, 0, 0), BAD);
        due("6 bend below", x.give(0, -1, 0), BAD);
        due("6 bend above", x.give(0, 6, 0), BAD);
        due("6 lesson below", x.give(0, 0, -2), BAD);
        due("6 lesson above", x.give(0, 0, 2), BAD);
        due("7 plan", x.given(0, 5), 0);
        due("7 other", x.given(1, 5), NONE);
        due("7 none", x.given(0, 0), NONE);
        due("7 raft below", x.given(-1, 0), BAD);
        due("7 raft above", x.given(2, 0), BAD);
        due("7 bend below", x.given(0, -1), BAD);
        due("7 bend above", x.given(0, 6), BAD);
    }

    private static void feeding() {
        SchoolOnRaft x = new SchoolOnRaft();
        due("8 below", x.feed(-1), BAD);
        due("8 above", x.feed(256), BAD);
        due("8 least", x.feed(0), 1);
        due("8 most", x.feed(255), 2);
        for (int k = 3; k <= 160; k++) {
            due("8 more", x.feed(32), k);
        }
        due("8 full", x.feed(32), FULL);
        due("8 bad ahead of full", x.feed(256), BAD);
        due("8 stands", x.count(4), 160);
    }

    private static void texts() {
        SchoolOnRaft x = new SchoolOnRaft();
        due("9 first", read(x, "hears 1 ; worth 0 ; runs 1 ;"), 1);
        due("9 tape is empty", x.count(4), 0);
        due("9 close by", read(x, "hears1or0and2;worth0;runs1;"), 2);
        due("9 blanks", read(x, " \n hears\n1 ;worth 0; runs 1;\n \n"), 3);
        due("9 fault", read(x, "hears"), -105);
        due("9 tape is empty by a fault", x.count(4), 0);
        due("9 no text by a fault", x.count(3), 4);
        due("9 fourth", read(x, "hears 9999;worth 0000;runs (1);"), 4);
        due("9 fifth", read(x, "hears not not not not not 1<2;worth -----1;runs (((((1)))));"), 5);
        due("9 count", x.count(3), 6);
        tape(x, "x");
        due("9 full", x.text(), FULL);
        due("9 tape stays", x.count(4), 1);
        due("10 above", x.force(6), BAD);
        due("10 below", x.force(-1), BAD);
        due("10 last", x.force(5), 0);
        due("10 same", x.force(5), 5);
        due("10 back", x.force(0), 5);
        due("10 stands", x.count(5), 0);
        due("10 none such", new SchoolOnRaft().force(1), BAD);
    }

    private static void faults() {
        String[] texts = {"", "  ", "hears", "hears 1", "hears 1 ", "hears 1;", "worth 1;", "Hears 1;", "hear 1;", "hearss 1;",
            "hears 1; runs 1;", "hears ;", "hears 1 2;", "hears 12345;", "hears 1+;", "hears 1 + * 2;", "hears 1 < 2 < 3;",
            "hears 1 = 2 = 3;", "hears 1 < not 2;", "hears - not 1;", "hears (1;", "hears 1);", "hears ();", "hears foo;",
            "hears hears;", "hears 1 and;", "hears 1 or or 1;", "hears 1\t;", "hears #;", "hears 1; worth 0; runs 1",
            "hears 1; worth 0; runs 1; ;", "hears 1; worth 0; runs 1; x", "hears 1; worth 0; runs 1; 1", "hears 1; worth bends;",
            "hears a1;", "hears age1;", "hears 1 not 1;", "hears not;", "hears 1 * - ;", "hears 00000;", "hears 1; worth 0; run 1;",
            "hears 1 foo 99999;", "hears + 1;", "hears 2 * (3 + 4 ;", "hears 1 , 2;", "hears \u00e9;", "hears 1 ; worth 1 ; runs 1 ; hears",
            "hears 1 orz 1;", "hears zor 1;", "hears {;", "hears `;", "hears /;", "hears :;", "hears 1 not 2;"};
        int[] places = {0, 2, 5, 7, 8, 8, 0, 0, 0, 0,
            9, 6, 8, 6, 8, 10, 12,
            12, 10, 8, 8, 7, 7, 6,
            6, 11, 11, 7, 6, 24,
            26, 26, 26, 15,
            6, 9, 8, 9, 12, 6, 18,
            8, 6, 17, 8, 6, 29,
            8, 6, 6, 6, 6, 6, 8};
        due("9 as many", texts.length, places.length);
        for (int k = 0; k < texts.length && k < places.length; k++) {
            SchoolOnRaft x = new SchoolOnRaft();
            due("9 fault of '" + texts[k] + "'", read(x, texts[k]), -100 - places[k]);
            due("9 no text by '" + texts[k] + "'", x.count(3), 1);
        }
    }

    private static void deepTexts() {
        String tail = ";worth 0;runs 0;";
        due("9 ( six", read(new SchoolOnRaft(), "hears ((((((1))))))" + tail), -111);
        due("9 - six", read(new SchoolOnRaft(), "hears ------1" + tail), -111);
        due("9 not six", read(new SchoolOnRaft(), "hears not not not not not not 1" + tail), -126);
        due("9 mixed six", read(new SchoolOnRaft(), "hears not(-(-(1" + tail), -113);
        due("9 mixed: the sixth", read(new SchoolOnRaft(), "hears not(-(-(1))))" + tail), -113);
        due("9 mixed five", read(new SchoolOnRaft(), "hears not(-(-1+2))" + tail), 1);
        due("9 - between is none of them", read(new SchoolOnRaft(), "hears (((((1-1-1)-1)-1)-1)-1)-1" + tail), 1);
        due("9 closed ones are free", read(new SchoolOnRaft(), "hears (((((1)))))+(((((1)))))*-----1" + tail), 1);
        due("9 - ends with its one", read(new SchoolOnRaft(), "hears -1*-1*-1*-1*-1*-1*-1+-1+-1" + tail), 1);
        due("9 not ends", read(new SchoolOnRaft(), "hears not 1 and not 1 and not 1 or not 1 and not 1 and not 1 or not 1" + tail), 1);
        due("9 not stays open", read(new SchoolOnRaft(), "hears not not not not not 1 < -1" + tail), -130);
        due("9 not stays open for a (", read(new SchoolOnRaft(), "hears not 1+((((1))))+(((((1)))))" + tail), -126);
        due("9 - stays open in (", read(new SchoolOnRaft(), "hears -(((((1)))))" + tail), -111);
    }

    /** The points of child 1, which has two lessons of 38 points, each with E and 40 less as its worth. */
    private static int shown(String e) {
        SchoolOnRaft x = new SchoolOnRaft();
        due("9 read " + e, read(x, "hears 1;worth " + e + "-40;runs 0;"), 1);
        x.force(1);
        // LONG of number 9: TIMES 1, POINTS 38.
        x.lesson(1, 9, 0);
        x.lesson(1, 9, 0);
        x.child(0, 5);
        x.child(5, 11);
        plan(x, 0, 1, 1, 1, 0, -1, -1);
        return x.points(1);
    }

    private static void namesInTexts() {
        // Child 1 has both lessons, so what it is worth is told for both: lesson 0 heard once, lesson 1 three times.
        due("9 bend", shown("bend+40"), 2 * (38 + 5));
        due("9 child", shown("child+40"), 2 * (38 + 1));
        due("9 lesson", shown("lesson*10+40"), 38 + 38 + 10);
        due("9 known", shown("known*10+40"), 2 * (38 + 20));
        due("9 age", shown("age+40"), 2 * (38 + 11));
        due("9 often", shown("often*10+40"), 38 + 10 + 38 + 30);

        SchoolOnRaft x = ruled("hears bend=3;worth 0;runs 1;");
        x.lesson(0, 0, 0);
        x.child(5, 9);
        plan(x, 0, 0, 0, 0, 0, 0, 0);
        due("11 hears by bend", x.heard(0, 0, 1), 3);
        due("12 heard by bend", x.heard(0, 0, 0), 1);

        x = ruled("hears child=1 and lesson=1;worth 0;runs 1;");
        x.lesson(0, 0, 0);
        x.lesson(0, 0, 0);
        x.child(5, 9);
        x.child(5, 9);
        plan(x, 0, 0, 1, 0, 1, 0, 1);
        due("12 child 0", x.heard(0, 1, 0), 0);
        due("12 child 1, lesson 0", x.heard(1, 0, 0), 0);
        due("12 child 1, lesson 1", x.heard(1, 1, 0), 3);

        x = ruled("hears often<2;worth 0;runs 1;");
        x.lesson(0, 0, 0);
        x.lesson(0, 0, 0);
        x.child(5, 9);
        plan(x, 0, 0, 1, 0, 0, 1, 0);
        due("12 often is of that lesson", x.heard(0, 0, 0), 2);
        due("12 often of the other", x.heard(0, 1, 0), 2);

        x = ruled("hears known=bend;worth 0;runs 1;");
        x.lesson(0, 0, 0);
        x.lesson(0, 0, 0);
        x.child(5, 9);
        plan(x, 0, 0, 1, 0, 1, 0, 1);
        due("12 known ahead of the lesson", x.heard(0, 0, 0), 2);
        due("12 known ahead of the other", x.heard(0, 1, 0), 1);

        // LIGHT of number 1 is known at bend 1, and no longer at bend 2.
        x = ruled("hears bend=0 or known=0;worth 0;runs 1;");
        x.lesson(2, 1, 0);
        x.child(5, 9);
        plan(x, 0, 0, 0, 0, -1, -1, -1);
        due("12 known is of that bend", x.heard(0, 0, 0), 2);
        due("12 understood anew at that bend", x.heard(0, 0, 1), 2);
    }

    private static void signsInTexts() {
        // Each E is moved up by the 40 that shown() takes from it, so that an E below 0 shows too.
        String[] es = {"1+2*3", "(1+2)*3", "10-3-2", "2*3*4", "-3+5", "--3", "-(3-5)", "0-3+5", "1 or 0", "0 or 0", "5 or 7",
            "5 and 7", "5 and 0", "0 and 5", "not 0", "not 7", "not not 7", "1<2", "2<1", "2<2", "2=2", "2=3", "1+1=2", "not 1=2",
            "1 or 1 and 0", "0 and 0 or 1", "not 0 and 0", "not 0 or 1", "1<2 and 2<3", "-2*-3", "-1<0", "9999-9998",
            "7 and 1+0", "3*(2<5)", "2 or 1<0", "0-1=-1"};
        int[] values = {7, 9, 5, 24, 2, 3, 2, 2, 1, 0, 1,
            1, 0, 0, 1, 0, 1, 1, 0, 0, 1, 0, 1, 1,
            1, 1, 0, 1, 1, 6, 1, 1,
            1, 3, 1, 1};
        due("9 as many", es.length, values.length);
        for (int k = 0; k < es.length && k < values.length; k++) {
            due("9 value of " + es[k], shown("(" + es[k] + ")+40"), 2 * (38 + values[k]));
        }
        // 32 bits, wrapping: 2000 * 2000 * 2000 * 2 is 16000000000, which is -1179869184.
        due("9 wraps", shown("(2000*2000*2000*2=-1179*1000*1000-869*1000-184)+40"), 2 * (38 + 1));
        due("9 wraps below", shown("(2000*2000*2000*2<0)+40"), 2 * (38 + 1));
        due("9 a whole E", shownBare("2 or 0"), 2 * (38 + 1));
        due("9 a bare number", shownBare("2"), 2 * (38 + 2));
    }

    private static int shownBare(String e) {
        SchoolOnRaft x = ruled("hears 1;worth " + e + ";runs 0;");
        x.lesson(1, 9, 0);
        x.lesson(1, 9, 0);
        x.child(5, 11);
        plan(x, 0, 0, 1, -1, -1, -1, -1);
        return x.points(0);
    }

    private static void bounds() {
        due("13 worth above", shownBare("100"), 2 * (38 + 99));
        due("13 worth at the bound", shownBare("99"), 2 * (38 + 99));
        due("13 worth far above", shownBare("9999"), 2 * (38 + 99));
        due("13 0 at least", shownBare("-39"), 0);
        due("13 just above 0", shownBare("-37"), 2);
        // Lesson 0 is bound to 0, so what it lacks is not taken from lesson 1.
        due("13 0 at least of each", shownBare("(lesson=0)*-99+1-lesson"), 38);

        SchoolOnRaft x = ruled("hears 1;worth -100;runs 1;");
        // PROOF and HARD reach 47 at most, so the lower bound shows through 0 at least alone.
        x.lesson(3, 9, 0);
        x.child(5, 11);
        plan(x, 0, 0, 0, 0, 0, 0, 0);
        due("13 worth below", x.points(0), 0);

        x = ruled("hears 1;worth 0;runs bend*50-50;");
        x.lesson(0, 0, 0);
        x.child(55, 9);
        plan(x, 0, 0, -1, -1, -1, -1, -1);
        // Bends 0 .. 4: -50 is 0, 0, 50, 100 is 99, 150 is 99.
        due("16 runs within its bounds", x.run(0, 1, 0), 248);
    }

    private static void spring() {
        SchoolOnRaft x = new SchoolOnRaft();
        // LONG of number 2 must be heard 3 times.
        x.lesson(1, 2, 0);
        x.lesson(0, 0, 0);
        x.child(5, 9);
        x.child(13, 9);
        x.child(23, 9);
        plan(x, 0, 1, 0, 0, 0, 1, 0);
        due("11 ahead", x.has(0, 0), 2);
        due("11 twice heard", x.has(0, 2), 2);
        due("11 thrice heard", x.has(0, 3), 3);
        due("11 aboard as long", x.has(1, 3), 1);
        due("11 left", x.has(1, 5), 1);
        due("11 not yet", x.has(1, 2), 0);
        due("11 too short", x.has(2, 5), 0);
        due("11 child below", x.has(-1, 0), BAD);
        due("11 child above", x.has(3, 0), BAD);
        due("11 bend below", x.has(0, -1), BAD);
        due("11 bend above", x.has(0, 6), BAD);
        due("12 often", x.heard(0, 0, 0), 4);
        due("12 last", x.heard(0, 0, 1), 3);
        due("12 aboard", x.heard(1, 0, 0), 3);
        due("12 too short", x.heard(2, 0, 0), 2);
        due("12 never", x.heard(2, 0, 1), NONE);
        due("12 not heard", x.heard(2, 1, 0), 0);
        due("12 child below", x.heard(-1, 0, 0), BAD);
        due("12 child above", x.heard(3, 0, 0), BAD);
        due("12 lesson below", x.heard(0, -1, 0), BAD);
        due("12 lesson above", x.heard(0, 2, 0), BAD);
        due("12 what below", x.heard(0, 0, -1), BAD);
        due("12 what above", x.heard(0, 0, 2), BAD);
        // A lesson not forgotten is not understood anew.
        due("12 once", x.heard(0, 1, 1), 0);
        due("12 yet heard twice", x.heard(0, 1, 0), 2);
    }

    private static void forgetting() {
        // Understood at bend 0, HAS at bends 0 .. 5.
        int[] kinds = {0, 1, 2, 2, 2, 4, 4, 4, 5};
        int[] numbers = {0, 0, 0, 2, 5, 0, 2, 8, 0};
        String[] has = {"111111", "111111", "100000", "111000", "111111", "101010", "111010", "111111", "111111"};
        for (int k = 0; k < kinds.length; k++) {
            SchoolOnRaft x = new SchoolOnRaft();
            x.lesson(kinds[k], numbers[k], 0);
            x.child(5, 9);
            x.give(0, 0, 0);
            for (int bend = 0; bend < 6; bend++) {
                due("11 kind " + kinds[k] + " number " + numbers[k] + " at " + bend, x.has(0, bend), has[k].charAt(bend) - '0');
            }
        }
        // HARD of number 0 must be heard twice, so it is understood at 1 at the earliest, and is there yet at 5, 4 behind.
        SchoolOnRaft x = new SchoolOnRaft();
        x.lesson(3, 0, 0);
        x.child(5, 9);
        plan(x, 0, 0, 0, -1, -1, -1, -1);
        due("11 HARD behind 1", x.has(0, 0), 0);
        due("11 HARD at 1", x.has(0, 1), 1);
        due("11 HARD at 5", x.has(0, 5), 1);
    }

    private static void needing() {
        SchoolOnRaft x = new SchoolOnRaft();
        // LIGHT of number 1, then a lesson that needs it.
        x.lesson(2, 1, 0);
        x.lesson(0, 0, 1);
        x.lesson(0, 0, 3);
        x.child(5, 9);
        plan(x, 0, 0, -1, 1, 0, 1, 2);
        due("11 forgotten need", x.has(0, 2), 0);
        due("11 fresh need", x.has(0, 4), 3);
        due("11 need forgotten at the end", x.has(0, 5), 2);
        due("12 heard all the same", x.heard(0, 2, 0), 1);
        due("12 not understood", x.heard(0, 2, 1), NONE);
        x.set(0, 0, 2);
        due("11 need kept", x.has(0, 5), 7);
        due("12 lesson 1 was understood early", x.heard(0, 1, 1), 2);
    }

    private static void heardTwice() {
        SchoolOnRaft x = new SchoolOnRaft();
        // SONG of number 0 goes and comes: at 1 it is not there, so it is understood anew; at 3 again it is there (2 behind 1).
        x.lesson(4, 0, 0);
        x.child(5, 9);
        plan(x, 0, 0, 0, -1, 0, -1, -1);
        due("12 anew", x.heard(0, 0, 1), 1);
        due("12 thrice", x.heard(0, 0, 0), 3);
        due("11 SONG at 2", x.has(0, 2), 0);
        due("11 SONG at 3", x.has(0, 3), 1);
        due("11 SONG at 5", x.has(0, 5), 1);
        x.give(0, 4, 0);
        due("12 anew at 4", x.heard(0, 0, 1), 4);
        due("11 SONG gone at 5", x.has(0, 5), 0);
    }

    private static void points() {
        SchoolOnRaft x = new SchoolOnRaft();
        x.lesson(0, 3, 0);
        x.lesson(5, 0, 0);
        x.lesson(2, 0, 0);
        x.child(5, 9);
        x.child(1, 9);
        x.child(22, 9);
        plan(x, 0, 0, 1, 2, -1, -1, -1);
        due("13 both", x.points(0), 13 + 27);
        due("13 as well", x.points(1), 13 + 27);
        due("13 forgotten", x.points(2), 0);
        due("13 all", x.points(NONE), 80);
        due("13 above", x.points(3), BAD);
        due("13 below", x.points(-2), BAD);
        x.give(0, 5, 2);
        due("13 at the end", x.points(0), 13 + 27 + 5);
    }

    private static void best() {
        SchoolOnRaft x = new SchoolOnRaft();
        due("14 nothing", x.best(0), 0);
        for (int what = 1; what <= 6; what++) {
            due("14 none", x.best(what), NONE);
        }
        due("14 below", x.best(-1), BAD);
        due("14 above", x.best(7), BAD);
        x.lesson(0, 0, 0);
        x.lesson(0, 5, 0);
        x.child(24, 9);
        // Both fit at bends 2 .. 4; the first row has none at 0, 1 and 2, then lesson 0, then 1.
        due("14 points", x.best(0), 25);
        int[] row = {NONE, NONE, NONE, 0, 1, NONE};
        for (int what = 1; what <= 6; what++) {
            due("14 row " + what, x.best(what), row[what - 1]);
        }
        due("14 the plan stands", x.points(NONE), 0);
        x.give(0, 0, 1);
        due("15 lay", x.lay(), 25);
        for (int bend = 0; bend < 6; bend++) {
            due("15 plan", x.given(0, bend), row[bend]);
            due("15 other plan", x.given(1, bend), NONE);
        }
        due("15 points", x.points(NONE), 25);
        // The last bend counts as the others.
        x = new SchoolOnRaft();
        x.lesson(2, 0, 0);
        x.child(5, 9);
        due("15 at the end", x.lay(), 5);
        due("15 the last bend", x.given(0, 5), 0);
        due("17 nothing more", x.twice(0, 0), NONE);
        x.give(0, 5, -1);
        due("17 the last bend", x.twice(0, 0), 5);
        // The best plan may need a forgotten lesson to be given late.
        x = new SchoolOnRaft();
        x.lesson(2, 0, 0);
        x.lesson(0, 0, 1);
        x.child(5, 9);
        due("14 late", x.best(0), 5);
        due("14 late lesson", x.best(6), 0);
        due("14 early", x.best(5), NONE);
        x.set(0, 0, 1);
        due("14 both", x.best(0), 16);
        due("14 need", x.best(5), 0);
        due("14 needing", x.best(6), 1);
    }

    /** BEST is asked between changes, so that one that was found earlier is not told again. */
    private static void bestIsFresh() {
        SchoolOnRaft x = new SchoolOnRaft();
        due("14 no lesson", x.best(0), 0);
        x.lesson(0, 0, 0);
        due("14 no child", x.best(0), 0);
        x.child(33, 5);
        due("14 a child", x.best(0), 10);
        due("14 where", x.best(4), 0);
        x.image();
        x.set(0, 0, 9);
        due("14 number", x.best(0), 19);
        x.set(3, 0, 5);
        due("14 off", x.best(6), 0);
        x.child(5, 5);
        due("14 two children", x.best(0), 38);
        x.lesson(1, 0, 0);
        due("14 two lessons", x.best(0), 78);
        x.set(1, 1, 1);
        due("14 needs", x.best(0), 78);
        due("14 needs at the end", x.best(6), 1);
        due("14 needs ahead", x.best(5), 0);
        read(x, "hears 1;worth age;runs 1;");
        due("14 as long as it is not the rule", x.best(0), 78);
        x.force(1);
        due("14 rule", x.best(0), 98);
        x.set(4, 0, 9);
        due("14 age", x.best(0), 106);
        row(x, 0, 0, 5, 5);
        x.children(0, 0, 0, 1);
        due("14 children", x.best(0), 155);
        x.back();
        due("14 back", x.best(0), 10);
        due("14 back where", x.best(4), 0);
        due("14 back none", x.best(6), NONE);
        x.give(0, 0, 0);
        due("14 hangs on no plan", x.best(0), 10);
    }

    private static void run() {
        SchoolOnRaft x = new SchoolOnRaft();
        x.lesson(0, 0, 0);
        x.lesson(1, 1, 0);
        x.child(22, 9);
        plan(x, 0, -1, 0, 1, 1, 0, -1);
        due("16 no lessons", x.run(0, 0, 0), 0);
        due("16 on as it is", x.run(0, 0, 1), 2);
        due("16 off as it is", x.run(0, 0, 2), 2);
        due("16 ahead", x.run(0, 1, 0), 1);
        due("16 least on", x.run(0, 1, 1), 1);
        due("16 off then", x.run(0, 1, 2), 2);
        due("16 after", x.run(0, 2, 0), 1);
        due("16 after on", x.run(0, 2, 1), 2);
        due("16 after off", x.run(0, 2, 2), 3);
        due("16 both", x.run(0, 3, 0), 2);
        due("16 both on", x.run(0, 3, 1), 1);
        due("16 both off", x.run(0, 3, 2), 3);
        x.give(0, 3, -1);
        due("16 none", x.run(0, 2, 0), NONE);
        due("16 none on", x.run(0, 2, 1), NONE);
        due("16 none off", x.run(0, 2, 2), NONE);
        x.child(25, 9);
        due("16 never a later on", x.run(1, 0, 1), 2);
        due("16 never an earlier off", x.run(1, 0, 2), 5);
        due("16 those aboard all the way cost nothing", x.run(1, 1, 0), 0);
        due("16 child below", x.run(-1, 0, 0), BAD);
        due("16 child above", x.run(2, 0, 0), BAD);
        due("16 lessons below", x.run(0, -1, 0), BAD);
        due("16 lessons above", x.run(0, 4, 0), BAD);
        due("16 what below", x.run(0, 0, -1), BAD);
        due("16 what above", x.run(0, 0, 3), BAD);
        due("16 child is not moved", x.told(0, 5), 2);

        // Ahead is dearer: 9 a bend, as age is; behind 1 a bend.
        x = ruled("hears 1;worth 0;runs (bend<2)*age+(2<bend)*(1+child+lesson+known+often);");
        x.lesson(0, 0, 0);
        x.child(22, 9);
        x.child(22, 7);
        plan(x, 0, -1, 0, -1, -1, 0, -1);
        due("16 dear ahead", x.run(0, 1, 0), 2);
        due("16 dear ahead: off", x.run(0, 1, 2), 4);
        due("16 of child 1", x.run(1, 1, 0), 4);
        x.give(0, 4, -1);
        due("16 by age", x.run(0, 1, 0), 9);
        due("16 by age of child 1", x.run(1, 1, 0), 7);

        // What costs nothing: the least ON, then the least OFF.
        x = ruled("hears 1;worth 0;runs 0;");
        x.child(23, 9);
        due("16 free", x.run(0, 0, 0), 0);
        due("16 least ON", x.run(0, 0, 1), 0);
        due("16 least OFF", x.run(0, 0, 2), 3);
    }

    private static void twice() {
        SchoolOnRaft x = new SchoolOnRaft();
        x.lesson(0, 0, 0);
        x.lesson(0, 3, 0);
        x.child(5, 9);
        plan(x, 0, 0, -1, -1, -1, -1, -1);
        due("17 first", x.twice(1, 0), 1);
        due("17 points", x.twice(1, 1), 23);
        due("17 not more", x.twice(0, 0), NONE);
        due("17 not more, points", x.twice(0, 1), NONE);
        plan(x, 0, 0, 0, 0, 0, 0, 0);
        due("17 instead", x.twice(1, 0), 0);
        due("17 instead, points", x.twice(1, 1), 23);
        plan(x, 0, 1, 1, 1, 1, 1, 0);
        due("17 as now", x.twice(1, 0), NONE);
        due("17 lesson below", x.twice(-1, 0), BAD);
        due("17 lesson above", x.twice(2, 0), BAD);
        due("17 what below", x.twice(0, -1), BAD);
        due("17 what above", x.twice(0, 2), BAD);
        due("17 the plan stands", x.given(0, 0), 1);
    }

    private static void change() {
        SchoolOnRaft x = new SchoolOnRaft();
        x.lesson(0, 0, 0);
        x.lesson(0, 5, 0);
        x.child(14, 9);
        plan(x, 0, 1, 1, -1, -1, -1, 1);
        plan(x, 1, 0, 0, -1, 0, -1, 0);
        due("18 at its on", x.change(0, 1), 25);
        due("18 in between", x.change(0, 2), 25);
        due("18 behind the lesson", x.change(0, 3), 15);
        due("18 at its off", x.change(0, 4), 15);
        due("18 the first of most", x.change(0, NONE), 1);
        due("18 not yet aboard", x.change(0, 0), BAD);
        due("18 not aboard any more", x.change(0, 5), BAD);
        due("18 below", x.change(0, -2), BAD);
        due("18 child below", x.change(-1, 1), BAD);
        due("18 child above", x.change(1, NONE), BAD);
        x.give(0, 3, 1);
        x.give(0, 1, -1);
        x.give(1, 4, 0);
        due("18 later", x.change(0, NONE), 3);
        due("18 later, points", x.change(0, 3), 25);
        due("18 the plan stands", x.given(0, 4), NONE);
        x.child(5, 9);
        plan(x, 0, 0, -1, -1, -1, -1, 1);
        plan(x, 1, 1, -1, -1, -1, -1, -1);
        due("18 from bend 0 to bend 5", x.change(1, NONE), 5);
        due("18 from bend 0 to bend 5, points", x.change(1, 5), 25);
        due("18 but at bend 4", x.change(1, 4), 10);
    }

    private static void exam() {
        SchoolOnRaft x = new SchoolOnRaft();
        x.lesson(0, 0, 0);
        x.lesson(2, 1, 0);
        x.child(14, 9);
        plan(x, 0, 0, 1, 0, -1, -1, 0);
        row(x, 2, 1, 0, 2, 3, 1, 1, 1);
        due("19 as it is", x.exam(0, 2), NONE);
        x.cell(2, 5, 3);
        due("19 last", x.exam(0, 2), 5);
        x.cell(2, 0, 1);
        due("19 first", x.exam(0, 2), 0);
        x.cell(2, 0, -65536);
        due("19 lowest 16 bits", x.exam(0, 2), 5);
        row(x, 3, 2, -65536, 2, 3, 1, 1, 1);
        due("19 all bits of an int", x.exam(0, 3), 0);
        row(x, 1, 0, 256, 2 - 512, 3, 1, 257, 1);
        due("19 lowest 8 bits", x.exam(0, 1), NONE);
        due("19 child below", x.exam(-1, 2), BAD);
        due("19 child above", x.exam(1, 2), BAD);
        due("19 child ahead of missing", x.exam(1, 0), BAD);
        due("19 sheet below", x.exam(0, -1), BAD);
        due("19 sheet above", x.exam(0, 4), BAD);
        due("19 missing", x.exam(0, 0), NOTHING);
        x.sheet(0, 0, 5);
        due("19 too short", x.exam(0, 0), BAD);
        x.sheet(0, 0, 7);
        due("19 too long", x.exam(0, 0), BAD);
    }

    private static void aboard() {
        SchoolOnRaft x = new SchoolOnRaft();
        x.lesson(0, 0, 0);
        x.child(5, 9);
        plan(x, 0, -1, -1, 0, -1, -1, -1);
        row(x, 0, 2, 0, 0, 1, 1, 1, 1);
        due("20 how many", x.aboard(0, 0, 0), 12);
        due("20 first", x.aboard(0, 0, 1), 2);
        row(x, 0, 2, 0, 0, 0, 0, 0, 0);
        due("20 those who missed it", x.aboard(0, 0, 0), 9);
        due("20 the first who missed it", x.aboard(0, 0, 1), 0);
        row(x, 0, 2, 0, 1, 1, 1, 1, 1);
        due("20 nobody", x.aboard(0, 0, 0), 0);
        due("20 nobody first", x.aboard(0, 0, 1), NONE);
        plan(x, 0, -1, 0, -1, 0, -1, -1);
        row(x, 0, 2, 0, 0, 0, 1, 1, 1);
        due("20 came behind", x.aboard(0, 0, 0), 6);
        due("20 came behind, first", x.aboard(0, 0, 1), 23);
        due("20 child", x.aboard(1, 0, 0), BAD);
        due("20 child below", x.aboard(-1, 0, 0), BAD);
        due("20 sheet", x.aboard(0, 4, 0), BAD);
        due("20 sheet below", x.aboard(0, -1, 0), BAD);
        due("20 missing", x.aboard(0, 1, 0), NOTHING);
        due("20 missing ahead of what", x.aboard(0, 1, 2), NOTHING);
        x.sheet(1, 2, 7);
        due("20 size", x.aboard(0, 1, 0), BAD);
        due("20 what above", x.aboard(0, 0, 2), BAD);
        due("20 what below", x.aboard(0, 0, -1), BAD);
    }

    private static void together() {
        SchoolOnRaft x = new SchoolOnRaft();
        x.lesson(0, 0, 0);
        x.lesson(0, 0, 0);
        x.lesson(0, 0, 0);
        x.lesson(0, 0, 0);
        due("21 nobody", x.together(1), 0);
        due("21 nobody, many", x.together(2), 0);
        x.child(0, 9);
        x.child(1, 9);
        x.child(12, 9);
        x.child(23, 9);
        x.child(33, 9);
        plan(x, 0, 0, 1, 2, 3, -1, -1);
        due("21 all", x.together(0), 15);
        // Child 1 has 0 and 1; child 3 has 2 and 3.
        due("21 meet", x.together(1), 10);
        due("21 many", x.together(2), 2);
        due("21 below", x.together(-1), BAD);
        due("21 above", x.together(3), BAD);
        due("22 lesson 0", x.known(0), 3);
        due("22 lesson 1", x.known(1), 6);
        due("22 lesson 2", x.known(2), 12);
        due("22 lesson 3", x.known(3), 24);
        due("22 below", x.known(-1), BAD);
        due("22 above", x.known(4), BAD);
        x.give(0, 3, -1);
        due("21 fewer lessons", x.together(0), 7);
        // 1 and 2, or 0 and 2, or 1 and 3: the least as bits is 0 with 2.
        due("21 least as bits", x.together(1), 5);
        due("21 still two", x.together(2), 2);
        x.child(5, 9);
        due("21 one who has all", x.together(1), 32);
        due("21 one alone", x.together(2), 1);
        due("22 of many", x.known(0), 35);
    }

    private static void drawn() {
        SchoolOnRaft x = new SchoolOnRaft();
        x.lesson(0, 0, 0);
        x.lesson(0, 1, 0);
        x.lesson(0, 3, 0);
        x.lesson(0, 7, 0);
        x.child(5, 9);
        x.child(5, 9);
        plan(x, 0, 0, 1, 2, -1, -1, 3);
        due("23 no water", x.drawn(1, 0), 2 * 51);
        due("23 all water", x.drawn(1, 10), 0);
        for (int seed = -3; seed < 40; seed++) {
            for (int water = 0; water <= 10; water++) {
                due("23 seed " + seed + ", water " + water, x.drawn(seed, water), 2 * flooded(seed, water));
            }
        }
        due("23 a far seed", x.drawn(Integer.MIN_VALUE, 5), 2 * flooded(Integer.MIN_VALUE, 5));
        due("23 below", x.drawn(1, -1), BAD);
        due("23 above", x.drawn(1, 11), BAD);
        due("23 the plan stands", x.count(2), 4);
    }

    /** The points of the lessons of drawn() that no flood takes, worked out with longs. */
    private static int flooded(int seed, int water) {
        int[] points = {10, 11, 13, 0, 0, 17};
        long z = seed & 0xffffffffL;
        int sum = 0;
        for (int bend = 0; bend < 6; bend++) {
            z = (z * 1103515245L + 12345L) & 0xffffffffL;
            sum += (z / 2048) % 10 < water ? 0 : points[bend];
        }
        return sum;
    }

    private static void chance() {
        SchoolOnRaft x = new SchoolOnRaft();
        x.lesson(0, 0, 0);
        due("24 of no children", x.chance(1, 4, 10, 0, 0), 1);
        due("24 of no children, below", x.chance(1, 4, 10, 0, 1), 1);
        x.child(5, 9);
        x.child(0, 9);
        x.give(0, 0, 0);
        due("24 no water", x.chance(7, 20, 0, 0, 0), 1);
        due("24 no water, below", x.chance(7, 20, 0, 0, 1), 1);
        due("24 all water", x.chance(7, 20, 10, 0, 0), 0);
        due("24 all water, below", x.chance(7, 20, 10, 0, 1), 1);
        for (int n = 1; n <= 20; n++) {
            int lucky = 0;
            for (int k = 0; k < n; k++) {
                int z = (Integer.MAX_VALUE - 9 + k) * 1103515245 + 12345;
                lucky += (z >>> 11) % 10 < 4 ? 0 : 1;
            }
            long above = x.chance(Integer.MAX_VALUE - 9, n, 4, 0, 0);
            long below = x.chance(Integer.MAX_VALUE - 9, n, 4, 0, 1);
            due("24 the line of " + n, above * n, below * lucky);
            due("24 lowest terms of " + n, java.math.BigInteger.valueOf(above).gcd(java.math.BigInteger.valueOf(below)).intValue(), 1);
        }
        x.child(11, 9);
        due("24 one who can't", x.chance(7, 20, 0, 0, 0), 0);
        due("24 n below", x.chance(0, 0, 0, 0, 0), NO);
        due("24 n above", x.chance(0, 21, 0, 0, 0), NO);
        due("24 water below", x.chance(0, 1, -1, 0, 0), NO);
        due("24 water above", x.chance(0, 1, 11, 0, 0), NO);
        due("24 lesson below", x.chance(0, 1, 0, -1, 0), NO);
        due("24 lesson above", x.chance(0, 1, 0, 1, 0), NO);
        due("24 part below", x.chance(0, 1, 0, 0, -1), NO);
        due("24 part above", x.chance(0, 1, 0, 0, 2), NO);
    }

    private static void image() {
        SchoolOnRaft x = new SchoolOnRaft();
        due("26 none", x.back(), STATE);
        due("25 of nobody", x.image(), 0);
        x.lesson(0, 3, 0);
        x.child(5, 9);
        due("26 of nobody", x.back(), 0);
        due("26 no lessons", x.count(0), 0);
        due("26 no children", x.count(1), 0);
        x.lesson(1, 3, 0);
        x.lesson(2, 4, 1);
        x.child(14, 9);
        plan(x, 0, 0, 1, -1, 0, 1, -1);
        plan(x, 1, 1, -1, -1, 0, -1, 1);
        due("25 of one", x.image(), 1);
        read(x, "hears 0;worth 0;runs 1;");
        due("10 force", x.force(1), 0);
        x.set(0, 0, 8);
        x.set(1, 1, 0);
        x.set(2, 0, 0);
        x.set(3, 0, 5);
        x.set(4, 0, 13);
        x.lesson(5, 5, 0);
        x.child(25, 5);
        plan(x, 0, 2, 2, 2, 2, 2, 2);
        plan(x, 1, 2, 2, 2, 2, 2, 2);
        tape(x, "hears");
        row(x, 1, 0, 14, 9);
        due("26 back", x.back(), 1);
        due("26 lessons", x.count(0), 2);
        due("26 children", x.count(1), 1);
        due("26 rule", x.count(5), 0);
        due("26 texts stay", x.count(3), 2);
        due("26 tape stays", x.count(4), 5);
        due("26 kind", x.told(0, 0), 1);
        due("26 number", x.told(0, 1), 3);
        due("26 needs", x.told(1, 2), 1);
        due("26 on", x.told(0, 5), 1);
        due("26 off", x.told(0, 6), 4);
        due("26 age", x.told(0, 7), 9);
        int[] plan = {0, 1, -1, 0, 1, -1};
        int[] other = {1, -1, -1, 0, -1, 1};
        for (int bend = 0; bend < 6; bend++) {
            due("26 plan", x.given(0, bend), plan[bend]);
            due("26 other plan", x.given(1, bend), other[bend]);
        }
        due("26 sheets stay", x.children(1, 0, 0, 1), 1);
        due("26 again", x.back(), 1);
        due("26 children again", x.count(1), 1);
        due("26 a new lesson's kind", x.lesson(4, 1, 0), 2);
        due("26 its kind", x.told(2, 0), 4);
        due("25 anew", x.image(), 1);
        due("26 keeps the newer", x.back(), 1);
        due("26 lessons of the newer", x.count(0), 3);
    }

    private static void counting() {
        SchoolOnRaft x = new SchoolOnRaft();
        x.lesson(0, 0, 0);
        x.lesson(0, 0, 0);
        x.child(5, 5);
        x.give(0, 0, 1);
        x.give(0, 5, 0);
        x.give(1, 3, 0);
        tape(x, "abc");
        due("27 lessons", x.count(0), 2);
        due("27 children", x.count(1), 1);
        due("27 bends", x.count(2), 2);
        due("27 texts", x.count(3), 1);
        due("27 tape", x.count(4), 3);
        due("27 rule", x.count(5), 0);
        due("27 below", x.count(-1), BAD);
        due("27 above", x.count(6), BAD);
    }

    private static void sheets() {
        SchoolOnRaft x = new SchoolOnRaft();
        due("28 sheet below", x.sheet(-1, 0, 1), BAD);
        due("28 sheet above", x.sheet(4, 0, 1), BAD);
        due("28 sort below", x.sheet(0, -2, 1), BAD);
        due("28 sort above", x.sheet(0, 3, 1), BAD);
        due("28 n above", x.sheet(0, 0, 41), BAD);
        due("28 n below", x.sheet(0, 0, -1), BELOW);
        due("28 bad sheet ahead of n", x.sheet(4, 0, -1), BAD);
        due("28 bad sort ahead of n", x.sheet(0, 3, -1), BAD);
        due("28 still missing", x.cell(0, 0, 1), NOTHING);
        due("28 none", x.sheet(0, 0, 0), 1);
        due("29 outside of none", x.cell(0, 0, 1), OUTSIDE);
        due("28 most", x.sheet(3, 2, 40), 1);
        due("29 last", x.cell(3, 39, Integer.MIN_VALUE), 1);
        due("29 above", x.cell(3, 40, 1), OUTSIDE);
        due("29 below", x.cell(3, -1, 1), OUTSIDE);
        due("29 sheet below", x.cell(-1, 0, 1), BAD);
        due("29 sheet above", x.cell(4, 0, 1), BAD);
        due("29 missing", x.cell(1, -1, 1), NOTHING);
        due("28 gone", x.sheet(3, -1, -5), 1);
        due("28 is gone", x.cell(3, 0, 1), NOTHING);
        due("28 gone, whatever n", x.sheet(3, -1, 99), 1);
        due("28 missing is of no sheet", x.sheet(4, -1, 0), BAD);
        // All 0 again, though it held others ahead.
        x.child(5, 9);
        row(x, 2, 0, 1, 1, 1, 1, 1, 1);
        due("28 ones", x.exam(0, 2), 0);
        due("28 anew", x.sheet(2, 0, 6), 1);
        due("28 all 0", x.exam(0, 2), NONE);
    }

    private static void copying() {
        SchoolOnRaft x = new SchoolOnRaft();
        x.lesson(0, 0, 0);
        x.lesson(0, 0, 0);
        x.child(5, 9);
        plan(x, 0, -1, 0, 1, -1, -1, -1);
        row(x, 0, 1, 7, 0, 1, 3, 3, 3, 3);
        x.sheet(1, 1, 6);
        x.sheet(2, 0, 6);
        due("30 six", x.copy(0, 1, 1, 0, 6), 6);
        due("30 came", x.exam(0, 1), NONE);
        due("30 none", x.copy(0, 7, 1, 6, 0), 0);
        due("30 none outside", x.copy(0, 8, 1, 0, 0), OUTSIDE);
        due("30 none outside there", x.copy(0, 0, 1, 7, 0), OUTSIDE);
        due("30 from outside", x.copy(0, 2, 1, 0, 6), OUTSIDE);
        due("30 to outside", x.copy(0, 0, 1, 1, 6), OUTSIDE);
        due("30 from below", x.copy(0, -1, 1, 0, 1), OUTSIDE);
        due("30 to below", x.copy(0, 0, 1, -1, 1), OUTSIDE);
        due("30 n below", x.copy(0, 0, 1, 0, -1), OUTSIDE);
        due("30 n wraps", x.copy(0, 1, 1, 1, Integer.MAX_VALUE), OUTSIDE);
        due("30 i wraps", x.copy(0, Integer.MAX_VALUE, 1, 0, 2), OUTSIDE);
        due("30 j wraps", x.copy(0, 0, 1, Integer.MAX_VALUE, 2), OUTSIDE);
        due("30 n least", x.copy(0, 0, 1, 0, Integer.MIN_VALUE), OUTSIDE);
        due("30 unlike", x.copy(0, 0, 2, 0, 1), UNLIKE);
        due("30 unlike ahead of outside", x.copy(0, 99, 2, 0, 1), UNLIKE);
        due("30 missing there", x.copy(0, 0, 3, 0, 1), NOTHING);
        due("30 missing here", x.copy(3, 0, 0, 0, 1), NOTHING);
        due("30 missing both", x.copy(3, 99, 3, 0, 1), NOTHING);
        due("30 sheet", x.copy(4, 0, 0, 0, 1), BAD);
        due("30 other", x.copy(3, 0, 4, 0, 1), BAD);
        due("30 sheet below", x.copy(-1, 0, 0, 0, 1), BAD);
        due("30 other below", x.copy(0, 0, -1, 0, 1), BAD);
        due("30 stands", x.exam(0, 1), NONE);
        // Over itself, both ways: as they were.
        row(x, 1, 1, 0, 1, 3, 3, 3, 3);
        row(x, 0, 1, 1, 3, 3, 3, 3, 0);
        due("30 up", x.copy(0, 0, 0, 1, 5), 5);
        x.cell(0, 0, 0);
        due("30 up: as they were", x.exam(0, 0), NONE);
        row(x, 0, 1, 9, 0, 1, 3, 3, 3, 3);
        due("30 down", x.copy(0, 1, 0, 0, 6), 6);
        due("30 down to another", x.copy(0, 0, 1, 0, 6), 6);
        due("30 down: as they were", x.exam(0, 1), NONE);
    }

    private static void childrenBySheet() {
        SchoolOnRaft x = new SchoolOnRaft();
        row(x, 0, 0, 5, 9, 14, 5, 41, 9, 33, 14, 0, 20, 55);
        due("31 none of none", x.children(0, 0, 0, 0), 0);
        due("31 none from outside", x.children(0, 0, 99, 0), 0);
        due("31 none from below", x.children(0, 0, -1, 0), 0);
        due("31 five", x.children(0, 0, 0, 5), 3);
        due("31 count", x.count(1), 3);
        due("31 on", x.told(1, 5), 1);
        due("31 off", x.told(1, 6), 4);
        due("31 age", x.told(2, 7), 14);
        due("31 six", x.children(0, 0, 0, 6), OUTSIDE);
        due("31 what stood ahead came", x.count(1), 6);
        due("31 full ones are left out", x.children(0, 0, 0, 5), 0);
        due("31 still 6", x.count(1), 6);
        due("31 sheet below", x.children(-1, 0, 0, 1), BAD);
        due("31 sheet above", x.children(4, 0, 0, 1), BAD);
        due("31 sort below", x.children(0, -1, 0, 1), BAD);
        due("31 sort above", x.children(0, 3, 0, 1), BAD);
        due("31 n below", x.children(0, 0, 0, -1), BAD);
        due("31 n above", x.children(0, 0, 0, 7), BAD);
        due("31 unlike", x.children(0, 1, 0, 1), UNLIKE);
        due("31 unlike, none", x.children(0, 2, 99, 0), UNLIKE);
        due("31 missing", x.children(1, 0, 0, 1), NOTHING);
        due("31 missing, sort above", x.children(1, 3, 0, 1), BAD);
        due("31 from below", x.children(0, 0, -1, 1), OUTSIDE);
        due("31 from far", x.children(0, 0, Integer.MAX_VALUE, 6), OUTSIDE);
        due("31 from far below", x.children(0, 0, Integer.MIN_VALUE, 6), OUTSIDE);

        x = new SchoolOnRaft();
        row(x, 3, 2, 5, 9, 5);
        due("31 half of one", x.children(3, 2, 2, 1), OUTSIDE);
        due("31 half came not", x.count(1), 0);
        due("31 half behind one", x.children(3, 2, 0, 2), OUTSIDE);
        due("31 one came", x.count(1), 1);
        due("31 from one on", x.children(3, 2, 1, 1), 0);
        row(x, 2, 1, 65536 + 25, -65536 + 7);
        due("31 lowest bits", x.children(2, 1, 0, 1), 1);
        due("31 lowest bits: on", x.told(1, 5), 2);
        due("31 lowest bits: age", x.told(1, 7), 7);
        row(x, 2, 2, 65536 + 25, 7);
        due("31 all bits", x.children(2, 2, 0, 1), 0);
    }

    private static void taken() {
        // For each kind the kinds that it can be taken for, as bits.
        int[] under = {1, 3, 5, 11, 21, 35};
        for (int kind = 0; kind < 6; kind++) {
            SchoolOnRaft x = new SchoolOnRaft();
            x.lesson(kind, 7, 0);
            for (int k = 0; k < 6; k++) {
                due("32 kind " + kind + " for " + k, x.taken(0, k), (under[kind] >> k & 1) != 0 ? 7 : UNLIKE);
            }
            due("32 k below", x.taken(0, -1), BAD);
            due("32 k above", x.taken(0, 6), BAD);
            due("32 no lesson", x.taken(1, 0), NOTHING);
            due("32 no lesson below", x.taken(-1, 5), NOTHING);
            due("32 k ahead of no lesson", x.taken(1, 6), BAD);
        }
    }
}
