import java.util.ArrayList;
import java.util.LinkedHashMap;
import java.util.List;
import java.util.Map;

/**
 * Promises 2 to 11: a call that is refused (false, NONE or an exception) leaves the object as it
 * was. Each refusal meets an object whose twin was not asked; then both are looked at from all
 * sides. Of every edge the last call that is taken stands beside the first one that is not.
 */
public final class RefusalTests {
    private interface Script {
        void run(WordFunctions x);
    }

    private interface Call {
        Object on(WordFunctions x);
    }

    private static final String ARGUMENT = "IllegalArgumentException";
    private static final String STATE = "IllegalStateException";
    private static final int LEAST = Integer.MIN_VALUE;
    private static final int MOST = Integer.MAX_VALUE;
    private static final Map<String, Call> VIEWS = new LinkedHashMap<>();

    private RefusalTests() { }

    public static void main(String[] args) {
        VIEWS.put("the answer", RefusalTests::answer);
        VIEWS.put("the tape", RefusalTests::tape);
        VIEWS.put("the text", RefusalTests::text);
        VIEWS.put("how many arguments", RefusalTests::argumentCount);
        VIEWS.put("how many values", RefusalTests::valueCount);
        VIEWS.put("the arguments' values", RefusalTests::arguments);
        VIEWS.put("the range", RefusalTests::range);
        VIEWS.put("HOME", RefusalTests::home);
        theViewsTellChangesApart();
        feedRefused();
        endRefused();
        homeRefused();
        argumentRefused();
        tooManyArguments();
        tooManyValues();
        rangeRefused();
        putRefused();
        putTextRefused();
        callRefused();
        lookRefused();
        letterRefused();
        refusedOnANewObject();
        Probe.finish("RefusalTests");
    }

    // What an object is, from one side; most of them use up what they look at.

    private static String answer(WordFunctions x) {
        StringBuilder b = new StringBuilder();
        b.append(x.value()).append(' ');
        for (int k = -1; k < 8; k++) {
            b.append(x.letter(k)).append(' ');
        }
        for (int row = 0; row < x.size(false); row++) {
            for (int column = 0; column < x.size(true); column++) {
                b.append(Probe.told(x, x.look(row, column))).append(", ");
            }
        }
        return b.append(x.size(false)).append(" x ").append(x.size(true)).toString();
    }

    private static String tape(WordFunctions x) {
        int n = 260;
        while (n > 0 && !x.end(n)) {
            n--;
        }
        boolean more = x.end(1);
        return n + " " + more + " " + text(x);
    }

    private static String text(WordFunctions x) {
        return thrown(y -> {
            y.argument(1, 1);
            y.putText(0);
            return Probe.answerOf(y, y.call(79));
        }, x);
    }

    private static String argumentCount(WordFunctions x) {
        int more = 0;
        while (thrown(y -> argument(y, 0, 0), x).equals("true")) {
            more++;
        }
        return "room for " + more;
    }

    private static String valueCount(WordFunctions x) {
        int more = 0;
        for (int rows = 512; rows > 0; rows /= 2) {
            int some = rows;
            more += thrown(y -> argument(y, some, 1), x).equals("true") ? rows : 0;
        }
        return "room for " + more;
    }

    private static String arguments(WordFunctions x) {
        // TEXTJOIN shows what stands in the grids from the third one on, TRANSPOSE a grid alone.
        String joined = thrown(y -> Probe.answerOf(y, y.call(80)), x);
        return joined.equals(ARGUMENT) ? thrown(y -> Probe.answerOf(y, y.call(100)), x) : joined;
    }

    private static String range(WordFunctions x) {
        return thrown(y -> Probe.answerOf(y, y.call(95)), x);
    }

    private static String home(WordFunctions x) {
        thrown(y -> y.call(79), x);
        return range(x) + " " + thrown(y -> Probe.answerOf(y, y.call(96)), x);
    }

    private static Object argument(WordFunctions x, int rows, int columns) {
        x.argument(rows, columns);
        return true;
    }

    private static String thrown(Call call, WordFunctions x) {
        try {
            return String.valueOf(call.on(x));
        } catch (RuntimeException e) {
            return e.getClass().getSimpleName();
        }
    }

    // The objects that refuse.

    /** A grid of 3 x 2 as the answer, told at its end. */
    private static void answered(WordFunctions x) {
        x.home(9, 8);
        x.argument(2, 3);
        Probe.set(x, 0, 4.5);
        Probe.set(x, 1, Probe.NA);
        Probe.set(x, 4, true);
        Probe.set(x, 5, "told");
        x.call(100);
        x.look(2, 1);
    }

    /** A text that was cut, and twenty bytes on the tape. */
    private static void taped(WordFunctions x) {
        Probe.cut(x, "word");
        x.feed(0x61626364, 0x65666768, 0x696A6B6C, 0x6D6E6F70, 0x71727374);
    }

    /** One argument, a RANGE of 2 x 2. */
    private static void one(WordFunctions x) {
        answered(x);
        Probe.give(x, Probe.ranged(5, 6, Probe.grid(2, 2, "here", 7, false, Probe.EMPTY)));
        taped(x);
    }

    /** Four arguments, the last one of them three values. */
    private static void four(WordFunctions x) {
        answered(x);
        Probe.give(x, ",");
        Probe.give(x, false);
        Probe.give(x, Probe.grid(2, 2, 1, "b", Probe.EMPTY, 4));
        Probe.give(x, Probe.grid(1, 3, "x", 2, true));
        taped(x);
    }

    /** One argument, left out. */
    private static void leftOut(WordFunctions x) {
        answered(x);
        x.argument(0, 0);
        taped(x);
    }

    /** Thirty arguments, and 260 bytes on the tape. */
    private static void full(WordFunctions x) {
        answered(x);
        Probe.give(x, ";");
        Probe.give(x, false);
        Probe.give(x, Probe.grid(1, 3, 5, 6, "seven"));
        for (int k = 3; k < 30; k++) {
            Probe.give(x, k % 2 == 0 ? Probe.LEFT_OUT : (Object) k);
        }
        taped(x);
        for (int k = 0; k < 12; k++) {
            Probe.holds("2: feed is taken below 260", x.feed(1, 2, 3, 4, 5));
        }
    }

    private static void refused(String what, Script object, Object due, Call call) {
        for (Map.Entry<String, Call> view : VIEWS.entrySet()) {
            WordFunctions x = new WordFunctions();
            WordFunctions twin = new WordFunctions();
            object.run(x);
            object.run(twin);
            Probe.same(what, thrown(call, x), String.valueOf(due));
            Probe.same(what + ": behind it " + view.getKey(), view.getValue().on(x),
                    view.getValue().on(twin));
        }
    }

    private static void taken(String what, Script object, Call call) {
        WordFunctions x = new WordFunctions();
        object.run(x);
        Probe.same(what, thrown(call, x), "true");
    }

    // A view that shows nothing would let every refusal pass.
    private static void theViewsTellChangesApart() {
        Object[][] changes = {
            {"the answer", (Call) x -> x.look(0, 0)},
            {"the tape", (Call) x -> x.feed(0, 0, 0, 0, 0)},
            {"the tape", (Call) x -> x.end(0)},
            {"the text", (Call) x -> x.end(3)},
            {"how many arguments", (Call) x -> argument(x, 0, 0)},
            {"how many values", (Call) x -> argument(x, 1, 1)},
            {"the arguments' values", (Call) x -> x.put(1, 1, 8.0)},
            {"the arguments' values", (Call) x -> x.putText(1)},
            {"HOME", (Call) x -> x.home(9, 7)},
            {"HOME", (Call) x -> x.home(10, 8)}
        };
        List<Script> objects = new ArrayList<>(List.of(RefusalTests::one, RefusalTests::four));
        for (Script object : objects) {
            for (Object[] change : changes) {
                WordFunctions x = new WordFunctions();
                WordFunctions twin = new WordFunctions();
                object.run(x);
                object.run(twin);
                ((Call) change[1]).on(x);
                Call view = VIEWS.get((String) change[0]);
                Probe.holds(change[0] + " shows a change", !view.on(x).equals(view.on(twin)));
            }
        }
        WordFunctions moved = new WordFunctions();
        one(moved);
        moved.range(6, 6);
        Probe.same("the range shows a change", range(moved), "number 6.0");
    }

    // Promise 2: "false if there are 260".
    private static void feedRefused() {
        refused("2: feed at 260", RefusalTests::full, false, x -> x.feed(9, 9, 9, 9, 9));
        WordFunctions x = new WordFunctions();
        for (int k = 0; k < 13; k++) {
            Probe.holds("2: feed up to " + (20 * k + 20), x.feed(0x41414141, 0, 0, 0, 0x5A5A5A00 + k));
        }
        Probe.holds("2: the 14th", !x.feed(0x42424242, 0, 0, 0, 0));
        x.end(255);
        x.argument(1, 1);
        x.putText(0);
        x.call(100);
        Probe.same("2: the last byte that can be cut", x.letter(254) + " " + x.letter(255), "0 -1");
        Probe.same("2: its first byte", x.letter(0), 0x41);
        Probe.same("2: the 12th call's last byte", x.letter(239), 11);
        Probe.same("2: the 13th call's first byte", x.letter(240), 0x41);
    }

    // Promise 3: "false if n is below 0, there are not so many, or n is above 255 (then it stays)".
    private static void endRefused() {
        for (int n : new int[] {-1, LEAST, 21, 22, 255, 256, MOST}) {
            refused("3: end(" + n + ") of 20", RefusalTests::one, false, x -> x.end(n));
        }
        for (int n : new int[] {-1, LEAST, 256, 257, 259, 260, 261, MOST}) {
            refused("3: end(" + n + ") of 260", RefusalTests::full, false, x -> x.end(n));
        }
        for (int n : new int[] {0, 1, 19, 20}) {
            taken("3: end(" + n + ") of 20", RefusalTests::one, x -> x.end(n));
        }
        for (int n : new int[] {0, 1, 254, 255}) {
            taken("3: end(" + n + ") of 260", RefusalTests::full, x -> x.end(n));
        }
    }

    // Promise 4: "false if there is none such (rows 1 .. 1048576, columns 1 .. 16384)".
    private static void homeRefused() {
        int[][] none = {{0, 1}, {1, 0}, {1048577, 1}, {1, 16385}, {0, 0}, {-1, 1}, {1, -1},
            {LEAST, 1}, {1, LEAST}, {MOST, 1}, {1, MOST}, {1048577, 16385}};
        for (int[] cell : none) {
            refused("4: home(" + cell[0] + ", " + cell[1] + ")", RefusalTests::one, false,
                    x -> x.home(cell[0], cell[1]));
            refused("4: home(" + cell[0] + ", " + cell[1] + ")", RefusalTests::leftOut, false,
                    x -> x.home(cell[0], cell[1]));
        }
        int[][] cells = {{1, 1}, {1048576, 1}, {1, 16384}, {1048576, 16384}};
        for (int[] cell : cells) {
            taken("4: home(" + cell[0] + ", " + cell[1] + ")", RefusalTests::one,
                    x -> x.home(cell[0], cell[1]));
            WordFunctions x = new WordFunctions();
            x.home(cell[0], cell[1]);
            Probe.same("4: HOME becomes this cell", home(x),
                    "number " + (double) cell[0] + " number " + (double) cell[1]);
        }
    }

    // Promise 5: "IllegalArgumentException: one of them is below 1 (but both 0)."
    private static void argumentRefused() {
        int[][] none = {{0, 1}, {1, 0}, {-1, 0}, {0, -1}, {-1, 1}, {1, -1}, {-1, -1}, {0, 600},
            {600, 0}, {LEAST, LEAST}, {LEAST, 0}, {0, MOST}, {-65536, -65536}};
        for (int[] n : none) {
            String what = "5: argument(" + n[0] + ", " + n[1] + ")";
            refused(what, RefusalTests::one, ARGUMENT, x -> argument(x, n[0], n[1]));
            refused(what, RefusalTests::four, ARGUMENT, x -> argument(x, n[0], n[1]));
            // "Of several exceptions the first one told is thrown": there are 30 already.
            refused(what, RefusalTests::full, ARGUMENT, x -> argument(x, n[0], n[1]));
        }
        taken("5: argument(0, 0)", RefusalTests::one, x -> argument(x, 0, 0));
        taken("5: argument(1, 1)", RefusalTests::one, x -> argument(x, 1, 1));
    }

    // Promise 5: "IllegalStateException: there are 30".
    private static void tooManyArguments() {
        refused("5: the 31st", RefusalTests::full, STATE, x -> argument(x, 0, 0));
        refused("5: the 31st", RefusalTests::full, STATE, x -> argument(x, 1, 1));
        Script almost = x -> {
            for (int k = 0; k < 29; k++) {
                Probe.give(x, k);
            }
        };
        taken("5: the 30th", almost, x -> argument(x, 1, 1));
        taken("5: the 30th, left out", almost, x -> argument(x, 0, 0));
        Script thirtyLeftOut = x -> {
            for (int k = 0; k < 30; k++) {
                x.argument(0, 0);
            }
        };
        refused("5: the 31st behind such as are left out", thirtyLeftOut, STATE,
                x -> argument(x, 0, 0));
    }

    // Promise 5: "or would be more than 512 values".
    private static void tooManyValues() {
        int[][] many = {{509, 1}, {1, 509}, {254, 3}, {255, 2}, {23, 23}, {MOST, 1}, {1, MOST},
            {MOST, MOST}, {65536, 65536}, {32768, 131072}, {MOST, 2}, {46341, 46341}};
        for (int[] n : many) {
            refused("5: argument(" + n[0] + ", " + n[1] + ") behind 4 values", RefusalTests::one,
                    STATE, x -> argument(x, n[0], n[1]));
        }
        int[][] fits = {{508, 1}, {1, 508}, {254, 2}, {4, 127}};
        for (int[] n : fits) {
            taken("5: argument(" + n[0] + ", " + n[1] + ") behind 4 values", RefusalTests::one,
                    x -> argument(x, n[0], n[1]));
        }
        Script all = x -> x.argument(16, 32);
        refused("5: 512 and 1", all, STATE, x -> argument(x, 1, 1));
        taken("5: 512 and one that is left out, which has none", all, x -> argument(x, 0, 0));
        Script allBut = x -> x.argument(7, 73);
        refused("5: 511 and 2", allBut, STATE, x -> argument(x, 1, 2));
        taken("5: 511 and 1", allBut, x -> argument(x, 1, 1));
        taken("5: 512 alone", x -> x.home(1, 1), x -> argument(x, 1, 512));
        refused("5: 513 alone", x -> x.home(2, 2), STATE, x -> argument(x, 513, 1));
    }

    // Promise 6: "false if there is no argument, it is left out, or it wouldn't lie on the sheet".
    private static void rangeRefused() {
        int[][] none = {{0, 1}, {1, 0}, {-1, 3}, {3, -1}, {1048576, 1}, {1, 16384},
            {1048576, 16384}, {1048577, 1}, {1, 16385}, {LEAST, 1}, {1, LEAST}, {MOST, 1}, {1, MOST},
            {MOST, MOST}};
        for (int[] cell : none) {
            String what = "6: range(" + cell[0] + ", " + cell[1] + ") of 2 x 2";
            refused(what, RefusalTests::one, false, x -> x.range(cell[0], cell[1]));
            refused(what + " that is no RANGE", x -> x.argument(2, 2), false,
                    x -> x.range(cell[0], cell[1]));
        }
        int[][] cells = {{1, 1}, {1048575, 1}, {1, 16383}, {1048575, 16383}};
        for (int[] cell : cells) {
            taken("6: range(" + cell[0] + ", " + cell[1] + ") of 2 x 2", RefusalTests::one,
                    x -> x.range(cell[0], cell[1]));
        }
        taken("6: one value in the last cell", x -> x.argument(1, 1), x -> x.range(1048576, 16384));
        taken("6: 512 rows", x -> x.argument(512, 1), x -> x.range(1048065, 16384));
        refused("6: 512 rows", x -> x.argument(512, 1), false, x -> x.range(1048066, 16384));
        taken("6: 512 columns", x -> x.argument(1, 512), x -> x.range(1048576, 15873));
        refused("6: 512 columns", x -> x.argument(1, 512), false, x -> x.range(1048576, 15874));
        refused("6: left out", RefusalTests::leftOut, false, x -> x.range(1, 1));
    }

    // Promise 7: "false if there is no such value, or kind isn't 0, 1, 3, 4; or a number isn't
    // below 1E300 in size (a NaN neither)".
    private static void putRefused() {
        for (int i : new int[] {-1, 4, 5, 511, 512, LEAST, MOST}) {
            for (int kind : new int[] {0, 1, 3, 4}) {
                refused("7: put(" + i + ", " + kind + ") of 4", RefusalTests::one, false,
                        x -> x.put(i, kind, 1.0));
            }
        }
        refused("7: put(3) of the last argument's 3", RefusalTests::four, false,
                x -> x.put(3, 1, 1.0));
        taken("7: put(3) of 4", RefusalTests::one, x -> x.put(3, 1, 1.0));
        taken("7: put(2) of the last argument's 3", RefusalTests::four, x -> x.put(2, 1, 1.0));
        for (int kind : new int[] {-1, 2, 5, 64, LEAST, MOST}) {
            refused("7: kind " + kind, RefusalTests::one, false, x -> x.put(0, kind, 1.0));
        }
        for (double v : new double[] {1E300, -1E300, Math.nextUp(1E300), Double.MAX_VALUE,
            Double.POSITIVE_INFINITY, Double.NEGATIVE_INFINITY, Double.NaN}) {
            refused("7: the number " + v, RefusalTests::one, false, x -> x.put(1, 1, v));
            taken("7: EMPTY with " + v, RefusalTests::one, x -> x.put(1, 0, v));
            taken("7: a truth of " + v, RefusalTests::one, x -> x.put(1, 3, v));
            taken("7: an error of " + v, RefusalTests::one, x -> x.put(1, 4, v));
        }
        taken("7: below 1E300", RefusalTests::one, x -> x.put(1, 1, Math.nextDown(1E300)));
        taken("7: above -1E300", RefusalTests::one, x -> x.put(1, 1, -Math.nextDown(1E300)));
        for (int kind = 0; kind <= 4; kind++) {
            int k = kind;
            refused("7: of one that is left out", RefusalTests::leftOut, false,
                    x -> x.put(0, k, 1.0));
        }
    }

    // Promise 8: "false if there is no such value".
    private static void putTextRefused() {
        for (int i : new int[] {-1, 4, 5, 512, LEAST, MOST}) {
            refused("8: putText(" + i + ") of 4", RefusalTests::one, false, x -> x.putText(i));
        }
        refused("8: putText(3) of the last argument's 3", RefusalTests::four, false,
                x -> x.putText(3));
        refused("8: of one that is left out", RefusalTests::leftOut, false, x -> x.putText(0));
        taken("8: putText(3) of 4", RefusalTests::one, x -> x.putText(3));
        taken("8: putText(0) of 4", RefusalTests::one, x -> x.putText(0));
        taken("8: putText(2) of the last argument's 3", RefusalTests::four, x -> x.putText(2));
    }

    // Promise 9: "there is no such function here, or it isn't for so many arguments (they stay).
    // (The answer stays, too.)"
    private static void callRefused() {
        for (int function : new int[] {65, 84, 85, 86, 117, 118, 133, 0, 1, -1, -66, LEAST, MOST}) {
            refused("9: no function " + function, RefusalTests::one, ARGUMENT,
                    x -> x.call(function));
            refused("9: no function " + function, RefusalTests::full, ARGUMENT,
                    x -> x.call(function));
            refused("9: no function " + function, x -> x.home(3, 3), ARGUMENT,
                    x -> x.call(function));
        }
        for (int function : new int[] {69, 80, 81, 90, 94, 99, 113, 116, 129, 132}) {
            refused("9: " + function + " isn't for 1 argument", RefusalTests::one, ARGUMENT,
                    x -> x.call(function));
        }
        for (int function : new int[] {66, 70, 74, 88, 93, 95, 100, 102, 115, 119, 131}) {
            refused("9: " + function + " isn't for 4 arguments", RefusalTests::four, ARGUMENT,
                    x -> x.call(function));
        }
    }

    // Promise 11: "NONE if there is none (then nothing changes). (So for numbers below 0.)"
    private static void lookRefused() {
        int[][] none = {{-1, 0}, {0, -1}, {-1, -1}, {3, 0}, {0, 2}, {3, 2}, {2, 2}, {3, 1},
            {LEAST, 0}, {0, LEAST}, {MOST, 0}, {0, MOST}, {MOST, MOST}};
        for (int[] place : none) {
            refused("11: look(" + place[0] + ", " + place[1] + ") of 3 x 2", RefusalTests::one, -1,
                    x -> x.look(place[0], place[1]));
        }
        for (int[] place : new int[][] {{0, 1}, {1, 0}, {-1, 0}, {0, -1}}) {
            refused("11: look(" + place[0] + ", " + place[1] + ") of one value",
                    x -> x.call(132), -1, x -> x.look(place[0], place[1]));
        }
        WordFunctions x = new WordFunctions();
        one(x);
        Probe.same("11: the corners", x.look(0, 0) + " " + x.look(2, 0) + " " + x.look(0, 1) + " "
                + x.look(2, 1), "1 0 0 2");
    }

    // Promise 13: "NONE if there is none".
    private static void letterRefused() {
        for (int k : new int[] {-1, 4, LEAST, MOST}) {
            refused("13: letter(" + k + ") of 4", RefusalTests::one, -1, x -> x.letter(k));
        }
        WordFunctions x = new WordFunctions();
        one(x);
        Probe.same("13: first and last", x.letter(0) + " " + x.letter(3),
                (int) 't' + " " + (int) 'd');
        x = new WordFunctions();
        x.argument(1, 1);
        Probe.set(x, 0, Probe.chars(254, 'q') + "\u0000");
        x.call(100);
        Probe.same("13: of 255", x.letter(254) + " " + x.letter(255), "0 -1");
    }

    private static void refusedOnANewObject() {
        Script nothing = x -> { };
        refused("3: nothing is there to cut", nothing, false, x -> x.end(1));
        refused("6: no argument", nothing, false, x -> x.range(1, 1));
        refused("7: no argument", nothing, false, x -> x.put(0, 1, 1.0));
        refused("8: no argument", nothing, false, x -> x.putText(0));
        refused("9: no arguments", nothing, ARGUMENT, x -> x.call(66));
        refused("11: one value", nothing, -1, x -> x.look(0, 1));
        refused("11: one value", nothing, -1, x -> x.look(1, 0));
        refused("13: no text", nothing, -1, x -> x.letter(0));
        taken("3: an empty text can be cut", nothing, x -> x.end(0));
    }
}
