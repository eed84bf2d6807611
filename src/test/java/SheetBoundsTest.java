import java.util.Arrays;

/** The boundaries of sheets: sizes, the lowest bits, what is copied over itself, and children who come by a sheet. */
public final class SheetBoundsTest extends Checks {
    public static void main(String[] args) {
        all0();
        all0Again();
        missingAgain();
        none();
        forty();
        lowestBits();
        copiesOverItself();
        copiesToAnother();
        copiesTheWhole();
        childrenAtTheEnd();
        childrenOfEachSort();
        close("sheets hold at their boundaries");
    }

    /** One child, and a LIGHT of 0, which it has at those bends alone at which it is given. */
    private static SchoolOnRaft watched() {
        SchoolOnRaft x = new SchoolOnRaft();
        x.lesson(2, 0, 0);
        x.child(5, 9);
        return x;
    }

    /** A sheet of six holds just these numbers, each 0 or 1. */
    private static void holds(String what, SchoolOnRaft x, int sheet, int... numbers) {
        for (int bend = 0; bend < 6; bend++) {
            x.give(0, bend, numbers[bend] - 1);
        }
        due(what + ": otherwise than " + Arrays.toString(numbers), x.exam(0, sheet), NONE);
    }

    private static void all0() {
        for (int sheet = 0; sheet < 4; sheet++) {
            for (int sort = 0; sort < 3; sort++) {
                SchoolOnRaft x = watched();
                due("28 a new sheet", x.sheet(sheet, sort, 6), 1);
                holds("28 all 0, sort " + sort, x, sheet, 0, 0, 0, 0, 0, 0);
            }
        }
    }

    private static void all0Again() {
        for (int sort = 0; sort < 3; sort++) {
            for (int then = 0; then < 3; then++) {
                SchoolOnRaft x = watched();
                row(x, 1, sort, 1, 1, 1, 1, 1, 1);
                holds("29 all 1", x, 1, 1, 1, 1, 1, 1, 1);
                x.sheet(1, then, 6);
                holds("28 all 0 again, sort " + then, x, 1, 0, 0, 0, 0, 0, 0);
            }
        }
        // What stood at the places from 6 on is not there again when there are so many again.
        SchoolOnRaft x = watched();
        x.sheet(0, 2, 40);
        for (int i = 0; i < 40; i++) {
            due("29 item " + i, x.cell(0, i, 1), 1);
        }
        x.sheet(0, 2, 6);
        holds("28 the first six", x, 0, 0, 0, 0, 0, 0, 0);
        x.sheet(0, 2, 40);
        x.sheet(1, 2, 6);
        for (int i = 0; i <= 34; i++) {
            due("30 from " + i, x.copy(0, i, 1, 0, 6), 6);
            due("28 all of 40 are 0", x.exam(0, 1), NONE);
        }
    }

    private static void missingAgain() {
        SchoolOnRaft x = watched();
        row(x, 0, 0, 1, 1, 1, 1, 1, 1);
        due("28 missing", x.sheet(0, -1, 6), 1);
        due("28 is missing", x.exam(0, 0), NOTHING);
        due("28 missing once more", x.sheet(0, -1, 6), 1);
        due("28 no cell", x.cell(0, 0, 1), NOTHING);
        x.sheet(0, 0, 6);
        holds("28 all 0 behind that", x, 0, 0, 0, 0, 0, 0, 0);
        // The others are as they were.
        row(x, 1, 1, 1, 0, 1, 0, 1, 0);
        row(x, 2, 2, 0, 1, 0, 1, 0, 1);
        x.sheet(0, -1, 0);
        x.sheet(3, 0, 6);
        holds("28 sheet 1", x, 1, 1, 0, 1, 0, 1, 0);
        holds("28 sheet 2", x, 2, 0, 1, 0, 1, 0, 1);
        holds("28 sheet 3", x, 3, 0, 0, 0, 0, 0, 0);
    }

    private static void none() {
        for (int sort = 0; sort < 3; sort++) {
            SchoolOnRaft x = watched();
            due("28 of no numbers", x.sheet(0, sort, 0), 1);
            due("29 no item 0", x.cell(0, 0, 1), OUTSIDE);
            due("29 no item below", x.cell(0, -1, 1), OUTSIDE);
            due("19 no six numbers", x.exam(0, 0), BAD);
            due("20 no six numbers", x.aboard(0, 0, 0), BAD);
            due("30 none of none", x.copy(0, 0, 0, 0, 0), 0);
            due("30 one of none", x.copy(0, 0, 0, 0, 1), OUTSIDE);
            due("30 none from 1", x.copy(0, 1, 0, 0, 0), OUTSIDE);
            due("30 none to 1", x.copy(0, 0, 0, 1, 0), OUTSIDE);
            due("31 none of none", x.children(0, sort, 0, 0), 0);
            due("31 one of none", x.children(0, sort, 0, 1), OUTSIDE);
        }
    }

    private static void forty() {
        for (int sort = 0; sort < 3; sort++) {
            SchoolOnRaft x = watched();
            due("28 of 40 numbers", x.sheet(3, sort, 40), 1);
            due("29 the first", x.cell(3, 0, 1), 1);
            due("29 the last", x.cell(3, 39, 1), 1);
            due("29 behind the last", x.cell(3, 40, 1), OUTSIDE);
            x.sheet(2, sort, 6);
            due("30 the last six", x.copy(3, 34, 2, 0, 6), 6);
            holds("30 the last is 1", x, 2, 0, 0, 0, 0, 0, 1);
            due("30 one too far", x.copy(3, 35, 2, 0, 6), OUTSIDE);
            due("30 all 40", x.copy(3, 0, 3, 0, 40), 40);
            due("30 41", x.copy(3, 0, 3, 0, 41), OUTSIDE);
            due("30 all from the first", x.copy(3, 0, 2, 0, 6), 6);
            holds("30 the first is 1", x, 2, 1, 0, 0, 0, 0, 0);
        }
    }

    private static void lowestBits() {
        for (int sort = 0; sort < 3; sort++) {
            // By how much a number may be more without being another one: 8 bits, 16 bits, and all.
            for (int more : new int[] {256, -256, 512, 65536, -65536, 1 << 24, Integer.MIN_VALUE}) {
                boolean alike = sort == 0 || sort == 1 && more % 65536 == 0;
                for (int bit = 0; bit < 2; bit++) {
                    SchoolOnRaft x = watched();
                    row(x, 0, sort, 0, 0, bit + more, 0, 0, 0);
                    x.give(0, 2, bit - 1);
                    due("29 " + more + " more, sort " + sort, x.exam(0, 0), alike ? NONE : 2);
                }
            }
            // 7, 8, 15 and 16 bits: none of them is left out.
            for (int more : new int[] {16, 128, 255, -1, 256, 32768, 65535, 65536}) {
                boolean alike = sort == 0 && more == 256 || sort < 2 && more == 65536 || sort == 0 && more == 32768;
                SchoolOnRaft x = watched();
                row(x, 0, sort, 0, 0, 0, more, 0, 0);
                due("29 " + more + " is 0, sort " + sort, x.exam(0, 0), alike ? NONE : 3);
            }
        }
    }

    private static void copiesOverItself() {
        int[][] rows = {{1, 0, 0, 1, 1, 0}, {0, 1, 0, 0, 1, 1}, {1, 1, 1, 0, 0, 0}};
        for (int i = 0; i <= 6; i++) {
            for (int j = 0; j <= 6; j++) {
                for (int n = 0; n <= 6; n++) {
                    for (int[] row : rows) {
                        SchoolOnRaft x = watched();
                        row(x, 0, 1, row);
                        int[] then = row.clone();
                        boolean inside = i + n <= 6 && j + n <= 6;
                        due("30 from " + i + " to " + j + ", " + n, x.copy(0, i, 0, j, n), inside ? n : OUTSIDE);
                        for (int k = 0; inside && k < n; k++) {
                            then[j + k] = row[i + k];
                        }
                        holds("30 as they were, from " + i + " to " + j + ", " + n, x, 0, then);
                    }
                }
            }
        }
    }

    private static void copiesToAnother() {
        for (int sort = 0; sort < 3; sort++) {
            for (int i = 0; i <= 6; i++) {
                for (int n = 0; n <= 6 - i; n++) {
                    SchoolOnRaft x = watched();
                    row(x, 2, sort, 1, 1, 0, 1, 0, 1);
                    row(x, 3, sort, 0, 0, 1, 0, 1, 0);
                    int[] from = {1, 1, 0, 1, 0, 1};
                    int[] to = {0, 0, 1, 0, 1, 0};
                    int j = 6 - i - n;
                    due("30 to another", x.copy(2, i, 3, j, n), n);
                    for (int k = 0; k < n; k++) {
                        to[j + k] = from[i + k];
                    }
                    holds("30 another one", x, 3, to);
                    holds("30 the one it came from", x, 2, from);
                }
            }
        }
    }

    private static void copiesTheWhole() {
        // Each number comes with all its bits: pairs that are children only if none is lost.
        SchoolOnRaft x = new SchoolOnRaft();
        row(x, 0, 2, 65536 + 5, 9, 5, 256 + 9, 25, 9);
        x.sheet(1, 2, 6);
        due("30 six", x.copy(0, 0, 1, 0, 6), 6);
        due("31 of these one is a child", x.children(1, 2, 0, 3), 1);
        due("31 it is the last", x.told(0, 5), 2);
        row(x, 2, 1, 256 + 5, 9, 5, 256 + 9, 35, 9);
        x.sheet(3, 1, 6);
        due("30 six shorts", x.copy(2, 0, 3, 0, 6), 6);
        due("31 of these one is a child, too", x.children(3, 1, 0, 3), 1);
        due("31 it is the last, too", x.told(1, 5), 3);
    }

    private static void childrenAtTheEnd() {
        for (int size = 0; size <= 13; size++) {
            for (int n = 0; n <= 6; n++) {
                for (int from = 0; from <= size; from++) {
                    SchoolOnRaft x = new SchoolOnRaft();
                    x.sheet(0, 0, size);
                    // 5 is a what and an age, so that there is a child from each place on.
                    for (int i = 0; i < size; i++) {
                        x.cell(0, i, 5);
                    }
                    int room = Math.min(n, (size - from) / 2);
                    String what = n + " from " + from + " of " + size;
                    due("31 " + what, x.children(0, 0, from, n), room == n ? n : OUTSIDE);
                    due("31 what stood ahead came, " + what, x.count(1), room);
                }
            }
        }
    }

    private static void childrenOfEachSort() {
        for (int sort = 0; sort < 3; sort++) {
            SchoolOnRaft x = new SchoolOnRaft();
            row(x, 0, sort, 0, 5, 55, 14, 5, 10, 12, 4, 12, 15, 21, 9);
            due("31 the least, the greatest, and wrong ones, sort " + sort, x.children(0, sort, 0, 6), 3);
            due("31 ON of the least", x.told(0, 5), 0);
            due("31 OFF of the least", x.told(0, 6), 0);
            due("31 AGE of the least", x.told(0, 7), 5);
            due("31 ON of the greatest", x.told(1, 5), 5);
            due("31 OFF of the greatest", x.told(1, 6), 5);
            due("31 AGE of the greatest", x.told(1, 7), 14);
            // 256 more is the same in bytes alone, 65536 more in bytes and shorts.
            row(x, 1, sort, 256 + 5, 9, 65536 + 5, 9);
            due("31 by the lowest bits, sort " + sort, x.children(1, sort, 0, 2), 2 - sort);
            row(x, 2, sort, -5, 9, 5, -9);
            due("31 below 0", x.children(2, sort, 0, 2), 0);
        }
    }
}
