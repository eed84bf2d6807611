/** What the tests share: how an answer is compared, and short ways to bring an object to where a boundary shows. */
abstract class Checks {
    static final int NONE = -1, BAD = -2, STATE = -3, FULL = -4;
    static final int NOTHING = -11, OUTSIDE = -12, UNLIKE = -13, BELOW = -14;
    static final long NO = -4611686018427387904L;
    private static int wrong = 0;

    static void due(String call, long got, long want) {
        if (got != want) {
            wrong++;
            System.out.println(call + " answered " + got + ", due is " + want);
        }
    }

    /** To be called last: says how it went, and ends with exit code 1 if an answer was not as due. */
    static void close(String all) {
        System.out.println(wrong == 0 ? all : wrong + " answers are not as due");
        if (wrong != 0) {
            System.exit(1);
        }
    }

    static int tape(SchoolOnRaft x, String text) {
        int last = 0;
        for (int k = 0; k < text.length(); k++) {
            last = x.feed(text.charAt(k));
        }
        return last;
    }

    static int read(SchoolOnRaft x, String text) {
        tape(x, text);
        return x.text();
    }

    /** A new object whose rule is this text. */
    static SchoolOnRaft ruled(String text) {
        SchoolOnRaft x = new SchoolOnRaft();
        due("read " + text, read(x, text), 1);
        due("force " + text, x.force(1), 0);
        return x;
    }

    static void plan(SchoolOnRaft x, int raft, int... lessons) {
        for (int bend = 0; bend < lessons.length; bend++) {
            x.give(raft, bend, lessons[bend]);
        }
    }

    static void row(SchoolOnRaft x, int sheet, int sort, int... values) {
        due("sheet", x.sheet(sheet, sort, values.length), 1);
        for (int i = 0; i < values.length; i++) {
            due("cell", x.cell(sheet, i, values[i]), 1);
        }
    }
}
