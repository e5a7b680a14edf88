import java.lang.reflect.Constructor;
import java.lang.reflect.Field;
import java.lang.reflect.Method;
import java.lang.reflect.Modifier;
import java.util.Arrays;
import java.util.Set;
import java.util.TreeSet;

/** The public face, and promises 1 to 13 but for what each function answers. */
public final class FaceTests {
    private FaceTests() { }

    public static void main(String[] args) {
        face();
        aNewObject();
        feed();
        end();
        home();
        argument();
        argumentThrows();
        range();
        put();
        putNumbers();
        putText();
        callThrows();
        callCounts();
        callEnds();
        size();
        look();
        value();
        letter();
        Probe.finish("FaceTests");
    }

    // The members that there are, and no others that aren't private.
    private static void face() {
        Class<WordFunctions> all = WordFunctions.class;
        Set<String> members = new TreeSet<>();
        for (Constructor<?> constructor : all.getDeclaredConstructors()) {
            if (!Modifier.isPrivate(constructor.getModifiers())) {
                members.add(constructor.toString());
            }
        }
        for (Field field : all.getDeclaredFields()) {
            if (!Modifier.isPrivate(field.getModifiers())) {
                members.add(field.toString());
            }
        }
        for (Method method : all.getDeclaredMethods()) {
            if (!Modifier.isPrivate(method.getModifiers())) {
                members.add(method.toString().replace("java.lang.", ""));
            }
        }
        Set<String> due = new TreeSet<>(Arrays.asList(
                "public static final int WordFunctions.NONE",
                "public WordFunctions()",
                "public boolean WordFunctions.feed(int,int,int,int,int)",
                "public boolean WordFunctions.end(int)",
                "public boolean WordFunctions.home(int,int)",
                "public void WordFunctions.argument(int,int)"
                        + " throws IllegalArgumentException,IllegalStateException",
                "public boolean WordFunctions.range(int,int)",
                "public boolean WordFunctions.put(int,int,double)",
                "public boolean WordFunctions.putText(int)",
                "public int WordFunctions.call(int) throws IllegalArgumentException",
                "public int WordFunctions.size(boolean)",
                "public int WordFunctions.look(int,int)",
                "public double WordFunctions.value()",
                "public int WordFunctions.letter(int)"));
        Probe.same("face: the members", members, due);
        Probe.same("face: the class", Modifier.toString(all.getModifiers()), "public final");
        Probe.same("face: what it extends", all.getSuperclass(), Object.class);
        Probe.same("face: what it implements", all.getInterfaces().length, 0);
        Probe.same("face: public classes inside", all.getClasses().length, 0);
    }

    private static void aNewObject() {
        WordFunctions x = new WordFunctions();
        Probe.same("1: NONE", WordFunctions.NONE, -1);
        Probe.same("1: rows", x.size(false), 1);
        Probe.same("1: columns", x.size(true), 1);
        Probe.same("1: value", x.value(), 0.0);
        Probe.same("1: letter", x.letter(0), -1);
        Probe.same("1: look", x.look(0, 0), 0);
        Probe.holds("1: no argument is there", !x.put(0, 0, 0.0) && !x.putText(0) && !x.range(1, 1));
        Probe.same("1: ROW() is HOME's", x.call(95) + " " + x.value(), "1 1.0");
        Probe.same("1: COLUMN() is HOME's", x.call(96) + " " + x.value(), "1 1.0");
        x.argument(1, 1);
        Probe.holds("1: a text that nothing was cut for is empty", x.putText(0));
        Probe.same("1: TYPE of it", x.call(130) + " " + x.value(), "1 2.0");
        Probe.holds("1: the tape is empty", !x.end(1) && x.end(0));
    }

    private static void feed() {
        WordFunctions x = new WordFunctions();
        Probe.holds("2: feed", x.feed(0x01020304, 0x80FF0005, 0x61626364, -1, 0x7A000001));
        Probe.holds("2: end", x.end(20));
        x.argument(1, 1);
        Probe.holds("2: putText", x.putText(0));
        x.call(94 + 6);
        int[] due = {1, 2, 3, 4, 128, 255, 0, 5, 97, 98, 99, 100, 255, 255, 255, 255, 122, 0, 0, 1};
        Probe.same("2: twenty bytes", x.value(), 20.0);
        for (int k = 0; k < due.length; k++) {
            Probe.same("2: byte " + k, x.letter(k), due[k]);
        }
        for (int k = 0; k < 13; k++) {
            Probe.holds("2: feed " + k, x.feed(k, k, k, k, k));
        }
        Probe.holds("2: 260 bytes are all", !x.feed(9, 9, 9, 9, 9));
        Probe.holds("2: still all there", x.end(255));
        Probe.holds("2: the tape takes again", x.feed(1, 1, 1, 1, 1));
    }

    private static void end() {
        WordFunctions x = new WordFunctions();
        x.feed(0x61626364, 0x65666768, 0, 0, 0);
        Probe.holds("3: below 0", !x.end(-1));
        Probe.holds("3: not so many", !x.end(21));
        Probe.holds("3: least number", !x.end(Integer.MIN_VALUE));
        Probe.holds("3: it stays", x.end(3));
        Probe.holds("3: it is empty then", !x.end(1));
        x.argument(1, 1);
        x.putText(0);
        x.argument(1, 1);
        Probe.holds("3: an empty text", x.end(0) && x.putText(0));
        Probe.same("3: first three bytes", Probe.answerOf(x, x.call(79)), "text abc");
        for (int k = 0; k < 13; k++) {
            x.feed(0x61616161, 0x61616161, 0x61616161, 0x61616161, 0x61616161);
        }
        Probe.holds("3: above 255", !x.end(256) && !x.end(260));
        Probe.holds("3: 255", x.end(255));
        x.argument(1, 1);
        x.putText(0);
        x.argument(1, 1);
        Probe.holds("3: false leaves the text", !x.end(20) && x.putText(0));
        x.call(81);
        Probe.same("3: the same text twice", x.value(), 1.0);
    }

    private static void home() {
        WordFunctions x = new WordFunctions();
        Probe.holds("4: last cell", x.home(1048576, 16384));
        int[][] none = {{0, 1}, {1, 0}, {1048577, 1}, {1, 16385}, {-1, -1}};
        for (int[] cell : none) {
            Probe.holds("4: no such cell " + cell[0] + ", " + cell[1], !x.home(cell[0], cell[1]));
        }
        Probe.same("4: ROW", x.call(95) + " " + x.value(), "1 1048576.0");
        Probe.same("4: COLUMN", x.call(96) + " " + x.value(), "1 16384.0");
        Probe.holds("4: first cell", x.home(1, 1));
        Probe.same("4: ROW again", x.call(95) + " " + x.value(), "1 1.0");
    }

    private static void argument() {
        WordFunctions x = new WordFunctions();
        x.argument(2, 3);
        Probe.same("5: a grid of EMPTY values", x.call(100), 64);
        Probe.same("5: its size", x.size(false) + " " + x.size(true), "3 2");
        Probe.same("5: an EMPTY value", x.look(2, 1) + " " + x.value(), "0 0.0");
        x.argument(1, 1);
        x.put(0, 1, 9.0);
        x.argument(1, 1);
        Probe.same("5: two arguments", thrown(x, 66), "IllegalArgumentException");
        x.call(113);
        x.argument(1, 1);
        Probe.same("5: EMPTY again behind a call", x.call(119) + " " + x.value(), "3 1.0");
        x.argument(0, 0);
        Probe.holds("5: one left out has no value", !x.put(0, 0, 0.0) && !x.putText(0));
        Probe.same("5: ROWS of one left out", x.call(97) + " " + x.value(), "1 1.0");
        x.argument(512, 1);
        Probe.same("5: 512 values", x.call(97) + " " + x.value(), "1 512.0");
        x.argument(1, 512);
        Probe.same("5: 512 columns", x.call(98) + " " + x.value(), "1 512.0");
    }

    private static void argumentThrows() {
        WordFunctions x = new WordFunctions();
        int[][] none = {{0, 1}, {1, 0}, {-1, 0}, {0, -1}, {-1, -1}, {-5, 3}, {513, 0}};
        for (int[] n : none) {
            Probe.throwsArgument("5: " + n[0] + " x " + n[1], () -> x.argument(n[0], n[1]));
        }
        Probe.throwsState("5: 513 values", () -> x.argument(513, 1));
        Probe.throwsState("5: 23 x 23", () -> x.argument(23, 23));
        Probe.throwsState("5: very many", () -> x.argument(65536, 65536));
        Probe.throwsState("5: most", () -> x.argument(Integer.MAX_VALUE, Integer.MAX_VALUE));
        x.argument(1, 511);
        Probe.throwsState("5: 511 and 2", () -> x.argument(2, 1));
        x.argument(1, 1);
        Probe.throwsState("5: 512 and 1", () -> x.argument(1, 1));
        for (int k = 2; k < 30; k++) {
            x.argument(0, 0);
        }
        Probe.throwsState("5: 30 there", () -> x.argument(0, 0));
        Probe.throwsArgument("5: the first one told", () -> x.argument(0, 1));
        Probe.same("5: all 30 stayed", x.call(79), 2);
        for (int k = 0; k < 30; k++) {
            x.argument(1, 1);
            x.put(0, 1, k % 10);
        }
        Probe.throwsState("5: 30 there again", () -> x.argument(1, 1));
        Probe.same("5: their texts", Probe.answerOf(x, x.call(79)),
                "text 012345678901234567890123456789");
    }

    private static void range() {
        WordFunctions x = new WordFunctions();
        Probe.holds("6: no argument", !x.range(1, 1));
        x.argument(0, 0);
        Probe.holds("6: left out", !x.range(1, 1));
        Probe.same("6: ROW of it is HOME's", x.call(95) + " " + x.value(), "1 1.0");
        x.argument(2, 3);
        Probe.holds("6: on the sheet's end", x.range(1048575, 16382));
        int[][] none = {{1048576, 16382}, {1048575, 16383}, {0, 1}, {1, 0}, {-3, -3},
            {Integer.MAX_VALUE, 1}, {1, Integer.MAX_VALUE}};
        for (int[] cell : none) {
            Probe.holds("6: not at " + cell[0] + ", " + cell[1], !x.range(cell[0], cell[1]));
        }
        Probe.same("6: it stays where it was", x.call(95) + " " + x.value(), "1 1048575.0");
        x.argument(1, 1);
        Probe.same("6: the next one is no range", x.call(96) + " " + x.value(), "4 3.0");
        x.argument(1, 1);
        x.range(3, 4);
        x.range(8, 9);
        Probe.same("6: the last place", x.call(96) + " " + x.value(), "1 9.0");
    }

    private static void put() {
        WordFunctions x = new WordFunctions();
        Probe.holds("7: no argument", !x.put(0, 1, 1.0));
        x.argument(1, 1);
        x.argument(2, 2);
        Probe.holds("7: below 0", !x.put(-1, 1, 1.0));
        Probe.holds("7: beyond", !x.put(4, 1, 1.0));
        Probe.holds("7: far", !x.put(Integer.MAX_VALUE, 1, 1.0) && !x.put(Integer.MIN_VALUE, 1, 1.0));
        for (int kind : new int[] {-1, 2, 5, 64, Integer.MAX_VALUE}) {
            Probe.holds("7: kind " + kind, !x.put(0, kind, 1.0));
        }
        x.call(113);
        x.argument(2, 2);
        Probe.holds("7: all four", x.put(3, 1, -2.5) && x.put(1, 3, 7.0) && x.put(2, 4, 5.0)
                && x.put(0, 1, 4.0) && x.put(0, 0, 3.0));
        x.call(100);
        Probe.same("7: row by row", Probe.answerOf(x, 64),
                "2 x 2 [EMPTY, error 5.0, truth 1.0, number -2.5]");
        double[] truths = {0.0, -0.0, 0.25, Double.NaN, Double.POSITIVE_INFINITY, -1.0};
        for (int k = 0; k < truths.length; k++) {
            x.argument(1, 1);
            Probe.holds("7: a truth of " + truths[k], x.put(0, 3, truths[k]));
            Probe.same("7: truth of " + truths[k], x.call(100) + " " + x.value(),
                    k < 2 ? "3 0.0" : "3 1.0");
        }
    }

    private static void putNumbers() {
        WordFunctions x = new WordFunctions();
        double[] errors = {1, 2, 3, 4, 5, 6, 7, 8, 0, 9, -1, 2.5, Double.NaN, 1E300, -1E308};
        for (int k = 0; k < errors.length; k++) {
            x.argument(1, 1);
            Probe.holds("7: an error of " + errors[k], x.put(0, 4, errors[k]));
            Probe.same("7: error of " + errors[k], x.call(100) + " " + x.value(),
                    "4 " + (k < 8 ? errors[k] : 3.0));
        }
        double[] numbers = {9.99E299, -9.99E299, 0.0, 0.1, Double.MIN_VALUE, Math.nextDown(1E300)};
        for (double number : numbers) {
            x.argument(1, 1);
            Probe.holds("7: number " + number, x.put(0, 1, number));
            Probe.same("7: number is " + number, x.call(100) + " " + x.value(), "1 " + number);
        }
        double[] none = {1E300, -1E300, Double.MAX_VALUE, Double.NaN,
            Double.POSITIVE_INFINITY, Double.NEGATIVE_INFINITY};
        for (double number : none) {
            x.argument(1, 1);
            Probe.holds("7: no number " + number, !x.put(0, 1, number));
            Probe.same("7: it stayed EMPTY", x.call(100) + " " + x.value(), "0 0.0");
        }
    }

    private static void putText() {
        WordFunctions x = new WordFunctions();
        Probe.cut(x, "hello");
        Probe.holds("8: no argument", !x.putText(0));
        x.argument(1, 2);
        Probe.holds("8: no such value", !x.putText(2) && !x.putText(-1));
        Probe.holds("8: both", x.putText(0) && x.putText(1));
        Probe.cut(x, "x");
        x.argument(1, 1);
        Probe.holds("8: the last argument", x.putText(0));
        Probe.same("8: the first argument keeps its text", Probe.answerOf(x, x.call(79)),
                "text hellox");
        x.argument(1, 1);
        x.putText(0);
        Probe.same("8: the text stays behind a call", Probe.answerOf(x, x.call(100)), "text x");
    }

    private static void callThrows() {
        int[] none = {Integer.MIN_VALUE, -1, 0, 1, 65, 84, 85, 86, 117, 118, 133, 200,
            Integer.MAX_VALUE};
        for (int arguments = 0; arguments <= 5; arguments++) {
            for (int function : none) {
                Probe.same("9: no function " + function, thrown(given(arguments), function),
                        "IllegalArgumentException");
            }
        }
    }

    private static void callCounts() {
        String counts = "66 1 1,67 1 2,68 1 2,69 3 3,70 2 3,71 2 3,72 4 4,73 3 4,74 2 2,75 1 1,"
                + "76 1 1,77 1 1,78 1 1,79 1 30,80 3 30,81 2 2,82 1 1,83 1 1,87 1 1,88 2 3,89 2 2,"
                + "90 3 4,91 3 4,92 2 3,93 2 3,94 2 3,95 0 1,96 0 1,97 1 1,98 1 1,99 2 5,100 1 1,"
                + "101 3 3,102 3 3,103 1 1,104 1 1,105 1 1,106 1 1,107 1 1,108 1 1,109 1 2,110 1 2,"
                + "111 2 2,112 2 2,113 2 2,114 3 3,115 2 3,116 2 3,119 1 1,120 1 1,121 1 1,122 1 1,"
                + "123 1 1,124 1 1,125 1 1,126 1 1,127 1 1,128 1 1,129 0 0,130 1 1,131 1 1,132 0 0";
        for (String row : counts.split(",")) {
            String[] n = row.split(" ");
            for (int arguments = 0; arguments <= 30; arguments++) {
                boolean fits = arguments >= Integer.parseInt(n[1])
                        && arguments <= Integer.parseInt(n[2]);
                Probe.same("9: " + n[0] + " of " + arguments + " arguments",
                        thrown(given(arguments), Integer.parseInt(n[0])),
                        fits ? "nothing" : "IllegalArgumentException");
            }
        }
    }

    private static WordFunctions given(int arguments) {
        WordFunctions x = new WordFunctions();
        for (int k = 0; k < arguments; k++) {
            x.argument(1, 1);
        }
        return x;
    }

    private static String thrown(WordFunctions x, int function) {
        return Probe.thrown(() -> x.call(function));
    }

    private static void callEnds() {
        WordFunctions x = new WordFunctions();
        x.argument(2, 2);
        x.put(3, 1, 8.0);
        Probe.same("9: a grid", x.call(100), 64);
        x.look(1, 1);
        x.argument(1, 1);
        x.put(0, 1, 5.0);
        Probe.same("9: refused", thrown(x, 132), "IllegalArgumentException");
        Probe.same("9: refused, none such", thrown(x, 5), "IllegalArgumentException");
        Probe.same("9: the answer stays", x.size(false) + " " + x.size(true) + " " + x.value(),
                "2 2 8.0");
        Probe.same("9: the arguments stay", x.call(120) + " " + x.value(), "3 1.0");
        Probe.same("9: they are gone", x.call(132) + " " + x.value(), "1 3.141592653589793");
        Probe.same("9: gone behind an error, too", x.call(129) + " " + x.call(129), "4 4");
    }

    private static void size() {
        WordFunctions x = new WordFunctions();
        x.argument(3, 2);
        x.call(100);
        Probe.same("10: rows", x.size(false), 2);
        Probe.same("10: columns", x.size(true), 3);
        x.call(132);
        Probe.same("10: one value", x.size(false) + " " + x.size(true), "1 1");
    }

    private static void look() {
        WordFunctions x = new WordFunctions();
        x.argument(2, 3);
        for (int k = 0; k < 6; k++) {
            x.put(k, 1, 10.0 + k);
        }
        x.call(100);
        Probe.same("11: look", x.look(2, 1) + " " + x.value(), "1 15.0");
        int[][] none = {{3, 0}, {0, 2}, {-1, 0}, {0, -1}, {2, 2}, {Integer.MAX_VALUE, 0},
            {0, Integer.MAX_VALUE}, {Integer.MIN_VALUE, Integer.MIN_VALUE}};
        for (int[] n : none) {
            Probe.same("11: none at " + n[0] + ", " + n[1], x.look(n[0], n[1]), -1);
            Probe.same("11: nothing changes", x.value(), 15.0);
        }
        Probe.same("11: another one", x.look(0, 1) + " " + x.value(), "1 13.0");
        x.call(132);
        Probe.same("11: one value has one cell", x.look(0, 1) + " " + x.look(1, 0), "-1 -1");
    }

    private static void value() {
        WordFunctions x = new WordFunctions();
        x.argument(1, 4);
        x.put(0, 1, -7.25);
        x.put(1, 3, 1.0);
        x.put(2, 4, 8.0);
        Probe.cut(x, "four");
        x.putText(3);
        x.call(100);
        Probe.same("12: at first the upper left one", x.value(), -7.25);
        Probe.same("12: a truth", x.look(1, 0) + " " + x.value(), "3 1.0");
        Probe.same("12: an error", x.look(2, 0) + " " + x.value(), "4 8.0");
        Probe.same("12: a text's length", x.look(3, 0) + " " + x.value(), "2 4.0");
        x.argument(1, 1);
        Probe.same("12: EMPTY", x.call(100) + " " + x.value(), "0 0.0");
    }

    private static void letter() {
        WordFunctions x = new WordFunctions();
        Probe.same("13: of EMPTY", x.letter(0), -1);
        x.call(132);
        Probe.same("13: of a number", x.letter(0), -1);
        x.argument(1, 1);
        Probe.cut(x, "a\u00FF\u0000");
        x.putText(0);
        x.call(100);
        Probe.same("13: letters", x.letter(0) + " " + x.letter(1) + " " + x.letter(2), "97 255 0");
        Probe.same("13: none", x.letter(3) + " " + x.letter(-1) + " "
                + x.letter(Integer.MAX_VALUE) + " " + x.letter(Integer.MIN_VALUE), "-1 -1 -1 -1");
        x.argument(1, 1);
        x.put(0, 3, 1.0);
        x.call(100);
        Probe.same("13: of a truth", x.letter(0), -1);
    }
}
