import java.util.ArrayList;
import java.util.List;

/** The boundaries of texts: the tape, each byte, each token, what may be open, how deep, and ints that wrap around. */
public final class TextBoundsTest extends Checks {
    private static final String TAIL = ";worth 0;runs 0;";
    private static final String[] NAMES = {"bend", "child", "lesson", "known", "age", "often"};
    private static final String[] KEYS = {"hears", "worth", "runs", "or", "and", "not"};
    /** -2147483648 and 2147483647, by numbers of four digits at most. */
    private static final String MIN = "(8192*8192*32)", MAX = "(8192*8192*32-1)";

    public static void main(String[] args) {
        emptyTape();
        fullTape();
        fullTapeFaults();
        firstBytes();
        bytesForOnes();
        bytesBehindOnes();
        bytesBehindWords();
        bytesBehindTexts();
        digits();
        words();
        wordsAreLong();
        prefixes();
        partsMissing();
        fiveOpen();
        openTillItsEnd();
        comparedOnce();
        oneOrZero();
        hearsWhatIsNotZero();
        wrapping();
        boundsOfWorth();
        boundsOfRuns();
        textNumbers();
        deepValues();
        close("texts hold at their boundaries");
    }

    private static int fault(String text) {
        SchoolOnRaft x = new SchoolOnRaft();
        int answer = read(x, text);
        due("9 the tape is empty behind '" + text + "'", x.count(4), 0);
        due("9 texts behind '" + text + "'", x.count(3), answer == 1 ? 2 : 1);
        return answer;
    }

    /** What E is as the worth of a LONG of 20 points: E must be from -19 to 99. */
    private static int value(String e) {
        SchoolOnRaft x = ruled("hears 1;worth " + e + ";runs 0;");
        x.lesson(1, 0, 0);
        x.child(5, 9);
        x.give(0, 0, 0);
        return x.points(0) - 20;
    }

    private static void emptyTape() {
        due("9 an empty tape ends too early", fault(""), -100);
        due("9 so does one blank", fault(" "), -101);
        due("9 and three", fault("\n \n"), -103);
        SchoolOnRaft x = new SchoolOnRaft();
        due("27 an empty tape", x.count(4), 0);
        due("9 twice", x.text() + x.text(), -200);
        due("8 the first byte", x.feed(0), 1);
    }

    /** A text of as many bytes, all of them in its last E, which is 1 and as many times 1 more as have room. */
    private static String longText(int size) {
        StringBuilder b = new StringBuilder("hears 1;worth 0;runs 1");
        while (b.length() < size - 2) {
            b.append("+1");
        }
        while (b.length() < size - 1) {
            b.append(' ');
        }
        return b.append(';').toString();
    }

    private static void fullTape() {
        String text = longText(160);
        due("8 a text of 160 bytes", text.length(), 160);
        SchoolOnRaft x = new SchoolOnRaft();
        due("8 all have room", tape(x, text), 160);
        due("8 no more has", x.feed(';'), FULL);
        due("9 the full tape is a text", x.text(), 1);
        x.force(1);
        x.lesson(0, 0, 0);
        x.child(55, 5);
        x.give(0, 4, 0);
        // "hears 1;worth 0;runs 1" takes 22 bytes and the ; one, so 68 times +1 have room.
        due("9 the text is read to its end", x.run(0, 1, 0), 69);
        SchoolOnRaft y = new SchoolOnRaft();
        due("8 159 bytes", tape(y, longText(159)), 159);
        due("8 one more has room", y.feed(' '), 160);
        due("9 a blank at the last place", y.text(), 1);
    }

    private static void fullTapeFaults() {
        due("9 160 blanks end too early", fault(" ".repeat(160)), -260);
        due("9 a text of 160 bytes but its last ;", fault(longText(160).substring(0, 159) + " "), -260);
        due("9 a number that can't stand at the last place", fault(longText(160).substring(0, 159) + "1"), -259);
        due("9 a wrong last byte", fault(longText(160).substring(0, 159) + "#"), -259);
        due("9 a word at the last place", fault(" ".repeat(159) + "h"), -259);
        due("9 a word that ends at the last place", fault(" ".repeat(155) + "hears"), -260);
        due("9 a number that ends at the last place", fault("hears" + " ".repeat(151) + "1234"), -260);
        due("9 a number too long at the last place", fault("hears" + " ".repeat(150) + "12345"), -255);
        due("9 a word of 160 letters", fault("h".repeat(160)), -100);
        due("9 a number of 155 digits", fault("hears" + "1".repeat(155)), -105);
    }

    private static boolean isIn(int letter, int from, int to) {
        return letter >= from && letter <= to;
    }

    private static boolean isBlank(int letter) {
        return letter == 32 || letter == 10;
    }

    private static void firstBytes() {
        for (int letter = 0; letter < 256; letter++) {
            // A blank may stand there, and then the text ends too early.
            due("9 first byte " + letter, fault("" + (char) letter), isBlank(letter) ? -101 : -100);
        }
    }

    private static void bytesForOnes() {
        for (int letter = 0; letter < 256; letter++) {
            boolean may = isIn(letter, '0', '9') || isBlank(letter) || letter == '(' || letter == '-';
            due("9 for a ONE, byte " + letter, fault("hears " + (char) letter), may ? -107 : -106);
        }
    }

    private static void bytesBehindOnes() {
        for (int letter = 0; letter < 256; letter++) {
            boolean may = isIn(letter, '0', '9') || isBlank(letter) || "+-*<=;".indexOf(letter) >= 0;
            due("9 behind a ONE, byte " + letter, fault("hears 1" + (char) letter), may ? -108 : -107);
            boolean mayInside = isIn(letter, '0', '9') || isBlank(letter) || "+-*<=)".indexOf(letter) >= 0;
            due("9 behind a ONE in ( ), byte " + letter, fault("hears(1" + (char) letter), mayInside ? -108 : -107);
        }
    }

    private static void bytesBehindWords() {
        for (int letter = 0; letter < 256; letter++) {
            int want = isBlank(letter) || isIn(letter, '0', '9') || letter == '-' ? 1
                : letter == '(' ? -107 : isIn(letter, 'a', 'z') ? -100 : -105;
            due("9 behind hears, byte " + letter, fault("hears" + (char) letter + "1;worth 1;runs 1;"), want);
        }
    }

    private static void bytesBehindTexts() {
        for (int letter = 0; letter < 256; letter++) {
            due("9 behind a text, byte " + letter, fault("hears 1;worth 1;runs 1;" + (char) letter), isBlank(letter) ? 1 : -123);
        }
    }

    private static void digits() {
        for (int n = 1; n <= 12; n++) {
            due("9 " + n + " digits", fault("hears " + "7".repeat(n) + TAIL), n <= 4 ? 1 : -106);
            due("9 " + n + " times 0", fault("hears " + "0".repeat(n) + TAIL), n <= 4 ? 1 : -106);
            due("9 " + n + " digits behind 1+", fault("hears 1+" + "7".repeat(n) + TAIL), n <= 4 ? 1 : -108);
        }
        due("9 the greatest NUMBER", value("9999-9990"), 9);
        due("9 the least NUMBER", value("0000"), 0);
        due("9 0 ahead of it", value("0009"), 9);
        due("9 a number that can't stand there and is too long", fault("hears 1 12345;"), -108);
        due("9 two numbers", fault("hears 1234 5;"), -111);
    }

    private static void words() {
        for (String name : NAMES) {
            due("9 NAME " + name, fault("hears " + name + TAIL), 1);
            due("9 NAME behind a ONE " + name, fault("hears 1 " + name + TAIL), -108);
            due("9 NAME for a KEY " + name, fault(name + " 1" + TAIL), -100);
        }
        for (String key : KEYS) {
            // A not may stand there; what it belongs to doesn't.
            due("9 KEY for a ONE " + key, fault("hears " + key + TAIL), key.equals("not") ? -109 : -106);
            due("9 KEY behind + " + key, fault("hears 1+" + key + " 1" + TAIL), -108);
        }
        due("9 a ; ahead of hears", fault(";hears 1" + TAIL), -100);
        due("9 worth first", fault("worth 1;hears 1;runs 1;"), -100);
        due("9 runs second", fault("hears 1;runs 1;worth 1;"), -108);
        due("9 hears twice", fault("hears 1;hears 1;"), -108);
        due("9 worth twice", fault("hears 1;worth 1;worth 1;"), -116);
        due("9 a fourth part", fault("hears 1;worth 1;runs 1;runs 1;"), -123);
    }

    private static void wordsAreLong() {
        for (String name : NAMES) {
            due("9 one letter more: " + name, fault("hears " + name + "s" + TAIL), -106);
            due("9 one letter ahead: " + name, fault("hears a" + name + TAIL), -106);
            due("9 one letter less: " + name, fault("hears " + name.substring(0, name.length() - 1) + TAIL), -106);
            due("9 without its first letter: " + name, fault("hears " + name.substring(1) + TAIL), -106);
            due("9 in great letters: " + name, fault("hears " + name.toUpperCase() + TAIL), -106);
            due("9 two words as one: " + name, fault("hears not" + name + TAIL), -106);
        }
        for (String name : NAMES) {
            for (int k = 0; k < name.length(); k++) {
                String other = name.substring(0, k) + "z" + name.substring(k + 1);
                due("9 another letter: " + other, fault("hears " + other + TAIL), -106);
            }
        }
        for (String key : KEYS) {
            for (int k = 0; k < key.length(); k++) {
                String other = key.substring(0, k) + "z" + key.substring(k + 1);
                String text = "hears not 1 and 1 or 1;worth 0;runs 0;";
                due("9 another letter: " + other, fault(text.replace(key, other)), -100 - text.indexOf(key));
            }
        }
        due("9 o is not or", fault("hears 1 o 1" + TAIL), -108);
        due("9 orr is not or", fault("hears 1 orr 1" + TAIL), -108);
        due("9 an is not and", fault("hears 1 an 1" + TAIL), -108);
        due("9 no is not not", fault("hears no 1" + TAIL), -106);
        due("9 hearsage is one word", fault("hearsage" + TAIL), -100);
        due("9 a number ends a word", fault("hears not1or1and2" + TAIL), 1);
        due("9 a name behind a number", fault("hears 1bend" + TAIL), -107);
        due("9 word, sign, word", fault("hears bend<age" + TAIL), 1);
    }

    /** Each text that ends too early: its fault is its size, or where a word begins that isn't whole. */
    private static void prefixes() {
        String text = "hears age<19 or not (often=0 and 2);\nworth known*12 - -(bend+lesson) ; runs --child*10 ;";
        due("9 the text whole", fault(text), 1);
        for (int size = 0; size < text.length(); size++) {
            boolean inWord = size > 0 && Character.isLetter(text.charAt(size)) && Character.isLetter(text.charAt(size - 1));
            int place = size;
            while (inWord && place > 0 && Character.isLetter(text.charAt(place - 1))) {
                place--;
            }
            // Only the last ; makes it a text, so each shorter one has a fault.
            due("9 the first " + size + " bytes", fault(text.substring(0, size)), -100 - place);
        }
    }

    private static void partsMissing() {
        due("9 no E", fault("hears;"), -105);
        due("9 no second E", fault("hears 1;worth;"), -113);
        due("9 no third E", fault("hears 1;worth 1;runs;"), -120);
        due("9 empty ( )", fault("hears ()" + TAIL), -107);
        due("9 ) without (", fault("hears 1)" + TAIL), -107);
        due("9 ( without )", fault("hears (1" + TAIL), -108);
        due("9 nothing behind or", fault("hears 1 or" + TAIL), -110);
        due("9 nothing behind and", fault("hears 1 and" + TAIL), -111);
        due("9 nothing behind not", fault("hears not" + TAIL), -109);
        due("9 nothing behind <", fault("hears 1<" + TAIL), -108);
        due("9 nothing behind =", fault("hears 1=" + TAIL), -108);
        due("9 nothing behind +", fault("hears 1+" + TAIL), -108);
        due("9 nothing behind -", fault("hears 1-" + TAIL), -108);
        due("9 nothing behind *", fault("hears 1*" + TAIL), -108);
        due("9 nothing behind - ONE", fault("hears -" + TAIL), -107);
        due("9 no + ONE", fault("hears +1" + TAIL), -106);
        due("9 not behind -", fault("hears -not 1" + TAIL), -107);
        due("9 not behind *", fault("hears 1*not 1" + TAIL), -108);
        due("9 not behind <", fault("hears 1<not 1" + TAIL), -108);
        due("9 not behind or", fault("hears 1 or not 1" + TAIL), 1);
        due("9 not behind and", fault("hears 1 and not 1" + TAIL), 1);
        due("9 not in (", fault("hears 1*(not 1)" + TAIL), 1);
    }

    /** All rows of so many that may stand open together; a not can't stand right behind a -. */
    private static List<String> openings(int many) {
        List<String> rows = new ArrayList<>();
        rows.add("");
        for (int k = 0; k < many; k++) {
            List<String> longer = new ArrayList<>();
            for (String row : rows) {
                longer.add(row + "(");
                longer.add(row + "-");
                if (!row.endsWith("-")) {
                    longer.add(row + "not ");
                }
            }
            rows = longer;
        }
        return rows;
    }

    private static void fiveOpen() {
        due("9 five open: rows", openings(5).size(), 144);
        for (String row : openings(5)) {
            String ends = ")".repeat((int) row.chars().filter(sign -> sign == '(').count());
            due("9 five open: " + row, fault("hears " + row + "1" + ends + TAIL), 1);
            for (String sixth : new String[] {"(", "-", "not "}) {
                String text = "hears " + row + sixth + "1" + (sixth.equals("(") ? ")" : "") + ends + TAIL;
                due("9 a sixth: " + text, fault(text), -106 - row.length());
            }
        }
        due("9 five open in worth", fault("hears 1;worth (((((1)))));runs 1;"), 1);
        due("9 a sixth in worth", fault("hears 1;worth ((((((1))))));runs 1;"), -119);
        due("9 five open in runs", fault("hears 1;worth 1;runs -----1;"), 1);
        due("9 a sixth in runs", fault("hears 1;worth 1;runs ------1;"), -126);
    }

    private static void openTillItsEnd() {
        String five = "(((((1)))))";
        due("9 ( till its )", fault("hears " + five + "+" + five + "*" + five + "<" + five + TAIL), 1);
        due("9 ( not till its ) yet", fault("hears ((((1)+(1)*((1)))+(1)))" + TAIL), 1);
        due("9 one ( is open yet", fault("hears (1+" + five + ")" + TAIL), -113);
        due("9 - till its ONE ends", fault("hears -----1+-----1*-----1--1" + TAIL), 1);
        due("9 - of a ( till its )", fault("hears -(1)+" + five + TAIL), 1);
        due("9 - is open in its (", fault("hears -" + five + TAIL), -111);
        due("9 not till its NOT ends: or", fault("hears not not not not not 1 or not not not not not 1" + TAIL), 1);
        due("9 not till its NOT ends: and", fault("hears not not not not not 1 and " + five + TAIL), 1);
        due("9 not till its NOT ends: )", fault("hears ((((not 1))))+" + five + TAIL), 1);
        due("9 not is open in its SUM", fault("hears not 1+((((1))))" + TAIL), 1);
        due("9 not is open to the end of its SUM", fault("hears not 1+" + five + TAIL), -116);
        due("9 not is open behind its <", fault("hears not 1<((((1))))" + TAIL), 1);
        due("9 not is open to the end behind its <", fault("hears not 1<" + five + TAIL), -116);
        due("9 not is open behind its =", fault("hears not 1=-----1" + TAIL), -116);
        due("9 not is open in its TERM", fault("hears not 1*-----1" + TAIL), -116);
        due("9 - between two TERMS is none", fault("hears 1-1-1-1-1-1-1-1" + TAIL), 1);
        due("9 - between two, in five (", fault("hears (((((1-1-1)))))" + TAIL), 1);
        due("9 - behind that, in five (", fault("hears (((((1--1)))))" + TAIL), -113);
        due("9 - behind *, in five (", fault("hears (((((1*-1)))))" + TAIL), -113);
        due("9 + is none", fault("hears (((((1+1)))))" + TAIL), 1);
    }

    private static void comparedOnce() {
        due("9 < then <", fault("hears 1<2<3" + TAIL), -109);
        due("9 < then =", fault("hears 1<2=3" + TAIL), -109);
        due("9 = then <", fault("hears 1=2<3" + TAIL), -109);
        due("9 = then =", fault("hears 1=2=3" + TAIL), -109);
        due("9 in ( it may be again", fault("hears (1<2)<3" + TAIL), 1);
        due("9 like is not less", value("7<7"), 0);
        due("9 less by 1", value("6<7"), 1);
        due("9 more by 1", value("8<7"), 0);
        due("9 like", value("7=7"), 1);
        due("9 not like by 1", value("6=7") + value("8=7"), 0);
    }

    private static void oneOrZero() {
        due("9 or of what is not 0", value("5 or 7"), 1);
        due("9 or, the first", value("5 or 0"), 1);
        due("9 or, the last", value("0 or -5"), 1);
        due("9 or of 0", value("0 or 0"), 0);
        due("9 and of what is not 0", value("5 and -7"), 1);
        due("9 and of bits that don't meet", value("1 and 2"), 1);
        due("9 and, the first", value("5 and 0"), 0);
        due("9 and, the last", value("0 and 5"), 0);
        due("9 not of what is not 0", value("not 5"), 0);
        due("9 not of what is below 0", value("not -1"), 0);
        due("9 not of 0", value("not 0"), 1);
        due("9 not not of 5", value("not not 5"), 1);
        due("9 a bare E is as it is", value("5"), 5);
    }

    /** How often a child hears its lesson that is given at all six bends. */
    private static int hears(String e) {
        SchoolOnRaft x = ruled("hears " + e + TAIL);
        x.lesson(0, 0, 0);
        x.child(5, 9);
        plan(x, 0, 0, 0, 0, 0, 0, 0);
        return x.heard(0, 0, 0);
    }

    private static void hearsWhatIsNotZero() {
        due("12 0", hears("0"), 0);
        due("12 1", hears("1"), 6);
        due("12 2", hears("2"), 6);
        due("12 below 0", hears("-1"), 6);
        due("12 the least int", hears(MIN), 6);
        due("12 256 is not 0", hears("256"), 6);
        due("12 65536 is not 0", hears("256*256"), 6);
        due("12 2 to the 32nd is 0", hears("256*256*256*256"), 0);
        due("12 0 at bend 2 alone", hears("bend-2"), 5);
        due("12 at the last bend alone", hears("bend=5"), 1);
        due("12 at bend 0 alone", hears("bend=0"), 1);
        due("12 as often as 3", hears("often<3"), 3);
        due("12 nothing known ahead", hears("known=0"), 1);
    }

    private static void wrapping() {
        due("9 MAX and 1 is MIN", value(MAX + "+1=" + MIN), 1);
        due("9 MIN less 1 is MAX", value(MIN + "-1=" + MAX), 1);
        due("9 less MIN is MIN", value("-" + MIN + "=" + MIN), 1);
        due("9 0 less MIN is MIN", value("0-" + MIN + "=" + MIN), 1);
        due("9 MIN times -1 is MIN", value(MIN + "*-1=" + MIN), 1);
        due("9 MAX times 2 is -2", value(MAX + "*2"), -2);
        due("9 MAX times MAX is 1", value(MAX + "*" + MAX), 1);
        due("9 MIN times 2 is 0", value(MIN + "*2"), 0);
        due("9 65536 times 65536 is 0", value("256*256*256*256"), 0);
        due("9 MIN is below 0", value(MIN + "<0"), 1);
        due("9 MIN is below MAX", value(MIN + "<" + MAX), 1);
        due("9 MAX is not below MIN", value(MAX + "<" + MIN), 0);
        due("9 MIN is below 1", value(MIN + "<1"), 1);
        due("9 9999 times itself and 22", value("9999*9999*22<0"), 1);
        due("9 9999 times itself and 21", value("9999*9999*21<0"), 0);
        due("9 wraps by +", value("9999*9999*21+9999*9999<0"), 1);
        due("9 wraps by -", value("0<-9999*9999*21-9999*9999"), 1);
        due("9 not of MIN", value("not " + MIN), 0);
        due("9 not of what wraps to 0", value("not " + MIN + "*2"), 1);
    }

    private static void boundsOfWorth() {
        due("13 98", value("98"), 98);
        due("13 99", value("99"), 99);
        due("13 100", value("100"), 99);
        due("13 MAX", value(MAX), 99);
        due("13 -19", value("-19"), -19);
        due("13 -20: 0 points", value("-20"), -20);
        due("13 -21: 0 at least", value("-21"), -20);
        due("13 -99", value("-99"), -20);
        due("13 -100", value("-100"), -20);
        due("13 MIN", value(MIN), -20);
        // 0 at least of each lesson: lesson 0 (10 points) takes nothing from lesson 1 (19 points).
        SchoolOnRaft x = ruled("hears 1;worth (lesson=0)*-99;runs 0;");
        x.lesson(0, 0, 0);
        x.lesson(0, 9, 0);
        x.child(5, 9);
        x.child(5, 9);
        plan(x, 0, 0, 1);
        due("13 of each lesson", x.points(0), 19);
        due("13 of each child", x.points(NONE), 38);
    }

    /** What it costs a child of bend 5 to be aboard at bend 4 more. */
    private static int cost(String e) {
        SchoolOnRaft x = ruled("hears 1;worth 0;runs " + e + ";");
        x.lesson(0, 0, 0);
        x.child(55, 9);
        x.give(0, 4, 0);
        return x.run(0, 1, 0);
    }

    private static void boundsOfRuns() {
        due("16 -1", cost("-1"), 0);
        due("16 0", cost("0"), 0);
        due("16 1", cost("1"), 1);
        due("16 98", cost("98"), 98);
        due("16 99", cost("99"), 99);
        due("16 100", cost("100"), 99);
        due("16 MAX", cost(MAX), 99);
        due("16 MIN", cost(MIN), 0);
        due("16 bend", cost("bend"), 4);
        due("16 age", cost("age"), 9);
        due("16 lesson, known, often", cost("lesson+known+often"), 0);
        due("16 child", cost("child"), 0);
        // The bound is of each bend: 3 times 99, and 3 times 0.
        SchoolOnRaft x = ruled("hears 1;worth 0;runs (bend<2)*-50+(1<bend)*150;");
        x.lesson(0, 0, 0);
        x.child(55, 9);
        x.give(0, 0, 0);
        due("16 of each bend", x.run(0, 1, 0), 297);
        SchoolOnRaft y = ruled("hears 1;worth 0;runs child*30+known+often+lesson;");
        y.lesson(0, 0, 0);
        y.lesson(0, 0, 0);
        y.child(0, 9);
        y.child(55, 9);
        plan(y, 0, 1, 1, 1, 1, 1, 1);
        y.give(0, 4, 0);
        due("16 child 1, nothing known or heard", y.run(1, 1, 0), 30);
    }

    private static void textNumbers() {
        SchoolOnRaft x = new SchoolOnRaft();
        due("10 TEXT 0 is THE RULE", x.count(5), 0);
        due("10 TEXT 0 as it was", x.force(0), 0);
        due("10 TEXT 1 is none yet", x.force(1), BAD);
        for (int text = 1; text <= 5; text++) {
            due("9 text", read(x, "hears 1;worth " + text + ";runs 1;"), text);
            due("10 the next is none yet", x.force(text + 1), BAD);
            due("9 a text is not in force by itself", x.count(5), 0);
        }
        due("27 texts", x.count(3), 6);
        x.lesson(0, 0, 0);
        x.child(5, 9);
        x.give(0, 0, 0);
        due("13 by TEXT 0", x.points(0), 10);
        for (int text = 5; text >= 0; text--) {
            due("10 force", x.force(text), text == 5 ? 0 : text + 1);
            due("13 by its worth", x.points(0), 10 + text);
        }
        // TEXT 0: all is heard, worth 0, runs 1.
        x.set(2, 0, 5);
        due("16 TEXT 0 costs 1 a bend", x.run(0, 1, 0), 5);
    }

    private static void deepValues() {
        // -5, 11, -21, 43, -85, 171 from within.
        due("9 five ( deep", value("1-2*(1-2*(1-2*(1-2*(1-2*(1-2*3)))))-100"), 71);
        String signs = "0 or 1 and 1<1+1*(0 or 1 and 1<1+1*(0 or 1 and 1<1+1*(0 or 1 and 0<0+1*(0 or 1 and 0=1-1*";
        due("9 all signs, five ( deep", value(signs + "(1)))))"), 1);
        due("9 all signs, five ( deep, and 0 within", value(signs + "(2)))))"), 0);
        due("9 all signs, three ( deep", value("0 or 1 and 1<1+1*(0 or 1 and 1<1+1*(0 or 1 and 1<1+1*(2)))"), 1);
        due("9 - and -", value("9----9"), 18);
        due("9 many or", value("0" + "or 0".repeat(30) + "or 7"), 1);
        due("9 many or of 0", value("0" + "or 0".repeat(31)), 0);
        due("9 many and", value("7" + "and 7".repeat(25)), 1);
        due("9 many and, the last of 0", value("7" + "and 7".repeat(24) + "and 0"), 0);
        due("9 many *", value("2" + "*1".repeat(60) + "*3"), 6);
        due("9 many +", value("2" + "+1".repeat(60)), 62);
        due("9 many -", value("70" + "-1".repeat(60)), 10);
        due("9 many + and *", value("1" + "+1*1".repeat(30)), 31);
        due("9 many compared", value("1=2" + "or 1=2".repeat(16) + "or 1<2"), 1);
        due("9 - from the left", value("9-4-3"), 2);
        due("9 * ahead of -", value("9-4*2"), 1);
        due("9 < behind +", value("1+1<1+2"), 1);
        due("9 and ahead of or", value("1 or 0 and 0"), 1);
        due("9 not behind <", value("not 2<1"), 1);
        due("9 not ahead of and", value("not 1 and 0"), 0);
    }
}
