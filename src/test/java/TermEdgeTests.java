/**
 * The boundary cases that "What it is" and "Terms" of the document name, sentence by sentence in
 * its order: the last case that is taken beside the first one that is not.
 */
public final class TermEdgeTests {
    private static final Object LEFT_OUT = Probe.LEFT_OUT;
    private static final Object EMPTY = Probe.EMPTY;
    private static final Probe.Err VALUE = Probe.VALUE;
    private static final Probe.Err NUM = Probe.NUM;
    private static final Probe.Err NA = Probe.NA;

    // Functions whose arguments are asked: each with a list of arguments that are well, and a
    // letter for what is wanted of each: t a text, n a whole, d a day, b a truth, u a number, x a
    // value that is no error, - nothing.
    private static final Object[][] ASKED = {
        {66, "t", "a"}, {67, "tn", "a", 1}, {68, "tn", "a", 1}, {69, "tnn", "abc", 1, 1},
        {70, "ttn", "a", "abc", 1}, {71, "ttn", "a", "abc", 1}, {72, "tnnt", "abc", 1, 1, "x"},
        {73, "tttn", "abc", "a", "x", 1}, {73, "ttt", "abc", "", "x"}, {74, "tn", "", 1},
        {75, "t", "a"}, {76, "t", "a"}, {77, "t", "a"}, {78, "t", "a"}, {79, "ttt", "a", "b", "c"},
        {80, "tbtt", "-", true, "a", "b"}, {81, "tt", "a", "b"}, {82, "n", 65}, {83, "t", "A"},
        {87, "n", 5}, {88, "unn", 5, 2, 1}, {89, "tn", "", 2},
        {90, "x-nb", 1, 1, 1, true}, {91, "x-nb", 1, 1, 1, true}, {92, "x--", 1, 1, 1},
        {93, "x-n", 1, 1, 1}, {94, "-nn", 1, 1, 1}, {94, "-n", 1, 1}, {97, "-", 1}, {98, "-", 1},
        {99, "nnnbt", 1, 1, 1, true, "s"},
        {101, "nnn", 2000, 1, 1}, {102, "nnn", 1, 1, 1}, {103, "d", 1}, {104, "d", 1},
        {105, "d", 1}, {106, "d", 1}, {107, "d", 1}, {108, "d", 1}, {109, "dn", 1, 1},
        {110, "dn", 1, 1}, {111, "dn", 1, 1}, {112, "dn", 1, 1}, {113, "dd", 1, 1},
        {114, "ddt", 1, 2, "D"}, {115, "dd-", 1, 2, 1}, {116, "dn-", 1, 0, 1}, {127, "n", 1},
        {128, "n", 1}
    };

    private TermEdgeTests() { }

    public static void main(String[] args) {
        calls();
        bytesOfATextAndErrors();
        leftOutIsOneEmptyValue();
        itsValue();
        numberOfEmptyAndTruths();
        numberOfTexts();
        numberOfTextsIsDivided();
        wholes();
        thousandths();
        zerosAndPoints();
        minus();
        tooLargeForAText();
        errorIsItsOwn();
        letters();
        askedInOrder();
        askedBeforeAllElse();
        notAsked();
        tooManyCharacters();
        truths();
        leftOutStandsForWhatIsBehindTheSign();
        leftOutAsIfItWerentThere();
        leftOutElseEmpty();
        Probe.finish("TermEdgeTests");
    }

    // "An object is used for at most 512 calls after it has been made": the 512th counts.
    private static void calls() {
        WordFunctions x = new WordFunctions();
        for (int k = 0; k < 255; k++) {
            x.argument(1, 1);
            x.call(k % 2 == 0 ? 119 : 97);
        }
        Probe.same("the 511th call", x.call(132), 1);
        Probe.same("the 512th call", x.value(), 3.141592653589793);
        WordFunctions y = new WordFunctions();
        y.argument(1, 508);
        for (int k = 0; k < 508; k++) {
            y.put(k, 1, k);
        }
        Probe.same("one argument that 508 calls filled", y.call(100), 64);
        Probe.same("and its last value", y.look(507, 0) + " " + y.value(), "1 507.0");
    }

    // "a TEXT (0 to 255 bytes), 3 a TRUTH (0, 1), 4 an ERROR: 1 .. 8"
    private static void bytesOfATextAndErrors() {
        Probe.is(0, 66, "");
        Probe.is(1, 66, "\u0000");
        Probe.is(255, 66, Probe.chars(255, '\u00FF'));
        WordFunctions x = new WordFunctions();
        Probe.holds("256 bytes are no text", !Probe.cut(x, Probe.chars(256, 'a')));
        double[][] errors = {{0, 3}, {1, 1}, {2, 2}, {3, 3}, {4, 4}, {5, 5}, {6, 6}, {7, 7}, {8, 8},
            {9, 3}, {-1, 3}, {0.5, 3}, {8.5, 3}, {1E300, 3}, {-1E300, 3}, {Double.NaN, 3},
            {Double.POSITIVE_INFINITY, 3}, {-0.0, 3}, {4294967297.0, 3}};
        for (double[] row : errors) {
            x = new WordFunctions();
            x.argument(1, 1);
            Probe.holds("7: an error of " + row[0], x.put(0, 4, row[0]));
            Probe.same("7: is", x.call(131) + " " + x.value(), "1 " + row[1]);
        }
        double[][] truths = {{0, 0}, {-0.0, 0}, {Double.MIN_VALUE, 1}, {-Double.MIN_VALUE, 1},
            {1, 1}, {2, 1}, {Double.NaN, 1}, {1E300, 1}, {Double.NEGATIVE_INFINITY, 1}};
        for (double[] row : truths) {
            x = new WordFunctions();
            x.argument(1, 1);
            Probe.holds("7: a truth of " + row[0], x.put(0, 3, row[0]));
            Probe.same("7: is", x.call(100) + " " + x.value(), "3 " + row[1]);
        }
    }

    // "One that is left out is, where a grid or value is wanted, one EMPTY value."
    private static void leftOutIsOneEmptyValue() {
        Probe.is(1, 97, LEFT_OUT);
        Probe.is(1, 98, LEFT_OUT);
        Probe.is(EMPTY, 100, LEFT_OUT);
        Probe.is(EMPTY, 94, LEFT_OUT, 1, 1);
        Probe.is(EMPTY, 94, LEFT_OUT, 0, 0);
        Probe.is(Probe.REF, 94, LEFT_OUT, 2, 1);
        Probe.is(Probe.REF, 94, LEFT_OUT, 1, 2);
        Probe.is(NA, 90, 0, LEFT_OUT, 1);
        Probe.is(Probe.REF, 90, 0, LEFT_OUT, 2);
        Probe.is(NA, 91, 0, LEFT_OUT, 1);
        Probe.is(Probe.REF, 91, 0, LEFT_OUT, 2);
        Probe.is(NA, 92, 0, LEFT_OUT);
        Probe.is(NA, 93, 0, LEFT_OUT, 0);
        Probe.is(1, 93, LEFT_OUT, 0, 0);
        Probe.is("", 80, "-", false, LEFT_OUT);
        Probe.is("-", 80, "-", false, LEFT_OUT, LEFT_OUT);
        Probe.is("", 80, "-", true, LEFT_OUT, LEFT_OUT);
        Probe.is(true, 119, LEFT_OUT);
        Probe.is(1, 130, LEFT_OUT);
    }

    // "ITS VALUE is that at the upper left" (not the first of another row, nor the last one)
    private static void itsValue() {
        Probe.Grid grid = Probe.grid(2, 2, 3, NA, Probe.DIV0, NA);
        Probe.is("abc", 67, "abcd", grid);
        Probe.is("3", 79, grid);
        Probe.is(1, 105, Probe.grid(1, 2, 2, NA));
        Probe.is(true, 128, grid);
        Probe.is(false, 124, grid);
        Probe.is(2, 93, grid, Probe.grid(1, 2, 2, 3), Probe.grid(2, 1, 0, NA));
        Probe.is(NA, 67, "abcd", Probe.grid(1, 2, NA, 3));
    }

    // "The NUMBER OF a value: of EMPTY 0, of a TRUTH 0 or 1"
    private static void numberOfEmptyAndTruths() {
        Probe.is("0", 88, EMPTY, 2);
        Probe.is("0", 88, LEFT_OUT, 2);
        Probe.is("0", 88, false, 2);
        Probe.is("1", 88, true, 2);
        Probe.is(30, 105, false);
        Probe.is(31, 105, true);
    }

    // "if it is perhaps - , one to nine digits, and perhaps a point and one to three digits; other
    // texts have the error #VALUE!"
    private static void numberOfTexts() {
        Object[][] texts = {
            {"", VALUE}, {"1", "1"}, {"123456789", "123456789"}, {"1234567890", VALUE},
            {"000000001", "1"}, {"0000000001", VALUE}, {"999999999.999", "999999999"},
            {"9999999999.9", VALUE}, {"1.", VALUE}, {"1.9", "1"}, {"1.99", "1"}, {"1.999", "1"},
            {"1.9999", VALUE}, {"1.0000", VALUE}, {".9", VALUE}, {"0.9", "0"}, {".", VALUE},
            {"1..5", VALUE}, {"1.2.3", VALUE}, {"1.5.", VALUE}, {"-", VALUE}, {"-0", "0"},
            {"--0", VALUE}, {"-0.", VALUE}, {"-.5", VALUE}, {"-0.9", "0"}, {"0-", VALUE},
            {"-0.999", "0"}, {"-0.9999", VALUE}, {"+1", VALUE}, {" 1", VALUE}, {"1 ", VALUE},
            {"1,5", VALUE}, {"/", VALUE}, {":", VALUE}, {"1/", VALUE}, {"1:", VALUE}, {"09", "9"},
            {"1.-5", VALUE}, {"1.5-", VALUE}, {"1e2", VALUE}, {"TRUE", VALUE}, {"\u00B9", VALUE},
            {"1\u0000", VALUE}, {"-000000001", NUM}, {"-1234567890", VALUE}
        };
        for (Object[] row : texts) {
            Probe.is(row[1], 88, row[0], 10);
        }
        // With a - nine digits, too: no tenth one.
        Probe.is(true, 128, "-123456789");
        Probe.is(VALUE, 128, "-1234567890");
        Probe.is(true, 128, "-123456789.999");
        Probe.is(VALUE, 128, "-123456789.9999");
    }

    // "its digits without the point, divided by 1.0, 10.0, 100.0 or 1000.0; -0 is 0"
    private static void numberOfTextsIsDivided() {
        Probe.is(12, 106, "7.5");
        Probe.is(18, 106, "7.75");
        Probe.is(3, 106, "7.125");
        Probe.is(0, 106, "7");
        Probe.is(NUM, 103, "-0.001");
        Probe.is(1899, 103, "-0");
        Probe.is(1899, 103, "-0.000");
        Probe.is(0, 108, "-0.0");
    }

    // "The WHOLE of a value is its number without what is behind the point; #NUM! if that is above
    // 2147483647 in size."
    private static void wholes() {
        Object[][] odd = {{2147483647.0, true}, {2147483647.999, true}, {2147483648.0, NUM},
            {-2147483647.0, true}, {-2147483647.999, true}, {-2147483648.0, NUM}, {0.999, false},
            {-0.999, false}, {1.999, true}, {-1.999, true}, {4294967297.0, NUM},
            {-4294967297.0, NUM}, {1E299, NUM}, {-1E299, NUM}};
        for (Object[] row : odd) {
            Probe.is(row[1], 128, row[0]);
        }
        Probe.is("", 69, "abc", 2147483647.5, 2147483647.5);
        Probe.is(NUM, 69, "abc", 2147483648.0, 1);
        Probe.is(NUM, 69, "abc", 1, 2147483648.0);
        Probe.is("abc", 67, "abc", 2147483647);
        Probe.is(NUM, 67, "abc", -2147483648.0);
        Probe.is(VALUE, 67, "abc", -2147483647);
    }

    // "as many thousandths as size * 1000.0 + 0.5 has wholes (by doubles)"
    private static void thousandths() {
        Object[][] texts = {{0.0005, "0.001"}, {0.00049, "0"}, {0.0015, "0.002"}, {0.00149, "0.001"},
            {0.9995, "1"}, {0.99949, "0.999"}, {1.0005, text(1.0005)}, {2.0005, text(2.0005)},
            {1.0014999, "1.001"}, {0.285, "0.285"}, {1.005, "1.005"}, {0.0625, "0.063"},
            {0.1875, "0.188"}, {0.4375, "0.438"}, {999.9995, text(999.9995)}, {1E-299, "0"},
            {0.125, "0.125"}, {123456.0625, "123456.063"}};
        for (Object[] row : texts) {
            Probe.is(row[1], 79, row[0]);
        }
    }

    private static String text(double v) {
        long thousandths = (long) (v * 1000.0 + 0.5);
        return new java.math.BigDecimal(java.math.BigInteger.valueOf(thousandths), 3)
                .stripTrailingZeros().toPlainString();
    }

    // "without zeros behind it that could be left out, nor a point without digits behind it"
    private static void zerosAndPoints() {
        Object[][] texts = {{100, "100"}, {0.5, "0.5"}, {0.05, "0.05"}, {0.005, "0.005"},
            {0.25, "0.25"}, {0.125, "0.125"}, {10.1, "10.1"}, {10.01, "10.01"}, {10.001, "10.001"},
            {10.0001, "10"}, {0, "0"}, {10, "10"}, {9, "9"}, {0.1, "0.1"}, {0.101, "0.101"},
            {0.11, "0.11"}, {1000000, "1000000"}, {1010.010, "1010.01"}};
        for (Object[] row : texts) {
            Probe.is(row[1], 79, row[0]);
        }
    }

    // "- before it if v is below 0 and they aren't 0"
    private static void minus() {
        Object[][] texts = {{-0.0, "0"}, {-0.00049, "0"}, {-0.0005, "-0.001"}, {-0.001, "-0.001"},
            {-0.5, "-0.5"}, {-1, "-1"}, {-100, "-100"}, {-10.25, "-10.25"}};
        for (Object[] row : texts) {
            Probe.is(row[1], 79, row[0]);
        }
    }

    // "1E12 or more in size: #VALUE!"
    private static void tooLargeForAText() {
        double below = Math.nextDown(1E12);
        Probe.is(text(below), 79, below);
        Probe.is("-" + text(below), 79, -below);
        Probe.is("999999999999", 79, 999999999999.0);
        Probe.is("999999999999.9", 79, 999999999999.9);
        Probe.is("-999999999999.9", 79, -999999999999.9);
        Probe.is(VALUE, 79, 1E12);
        Probe.is(VALUE, 79, -1E12);
        Probe.is(VALUE, 66, Math.nextUp(1E12));
        Probe.is(VALUE, 66, 9.9E299);
        Probe.is(VALUE, 66, -9.9E299);
    }

    // "An error is its own number, whole and text."
    private static void errorIsItsOwn() {
        for (int error = 1; error <= 8; error++) {
            Probe.Err e = new Probe.Err(error);
            Probe.is(e, 66, e);
            Probe.is(e, 82, e);
            Probe.is(e, 88, e, 2);
            Probe.is(e, 103, e);
            Probe.is(e, 80, "", e, "a");
            Probe.is(e, 80, "", true, e);
            Probe.is(e, 93, e, 1, 0);
        }
    }

    // "letters A .. Z and a .. z alone have two sizes"
    private static void letters() {
        for (int c = 0; c <= 255; c++) {
            String text = String.valueOf((char) c);
            boolean isGreat = c >= 'A' && c <= 'Z';
            boolean isSmall = c >= 'a' && c <= 'z';
            String great = isSmall ? String.valueOf((char) (c - 32)) : text;
            String small = isGreat ? String.valueOf((char) (c + 32)) : text;
            Probe.is(great, 75, text);
            Probe.is(small, 76, text);
            Probe.is(great + (isGreat || isSmall ? "b" : "B"), 77, text + "B");
            boolean twoSizes = isGreat || isSmall;
            String other = String.valueOf((char) (c ^ 32));
            boolean special = "?*~".contains(text) || "?*~".contains(other);
            if (!special) {
                Probe.is(twoSizes ? 1 : VALUE, 71, text, other);
                Probe.is(twoSizes ? 1 : NA, 93, text, other, 0);
                Probe.is(false, 81, text, other);
            }
        }
    }

    // What is wanted of an argument, and the error of such as is none.
    private static Object[][] wrongOnes(char wanted) {
        switch (wanted) {
            case 't': return new Object[][] {{Probe.NAME, Probe.NAME}, {1E12, VALUE},
                {-1E12, VALUE}};
            case 'n': return new Object[][] {{Probe.NAME, Probe.NAME}, {"x", VALUE}, {"", VALUE},
                {2147483648.0, NUM}, {-2147483648.0, NUM}};
            case 'd': return new Object[][] {{Probe.NAME, Probe.NAME}, {"x", VALUE}, {"", VALUE},
                {-0.001, NUM}, {2958466, NUM}};
            case 'b':
            case 'u': return new Object[][] {{Probe.NAME, Probe.NAME}, {"x", VALUE}, {"", VALUE}};
            case 'x': return new Object[][] {{Probe.NAME, Probe.NAME}};
            default: return new Object[0][];
        }
    }

    // "Arguments are asked in their order, also such as change nothing, ..: the first that has no
    // such number, whole, day, truth or text as is wanted gives its error as the answer."
    private static void askedInOrder() {
        for (Object[] row : ASKED) {
            String wanted = (String) row[1];
            for (int i = 0; i < wanted.length(); i++) {
                for (Object[] wrong : wrongOnes(wanted.charAt(i))) {
                    Object[] arguments = java.util.Arrays.copyOfRange(row, 2, row.length);
                    arguments[i] = wrong[0];
                    Probe.is(wrong[1], (Integer) row[0], arguments);
                    for (int later = i + 1; later < wanted.length(); later++) {
                        if (wanted.charAt(later) != '-') {
                            arguments[later] = Probe.NULL;
                        }
                    }
                    Probe.is(wrong[1], (Integer) row[0], arguments);
                }
            }
        }
    }

    // "(Only then is looked at what else may be wrong.)"
    private static void askedBeforeAllElse() {
        Object[][] wrong = {
            {67, "a", -1}, {69, "abc", 0, -1}, {70, "a", "b", 0}, {71, "a", "b", 0},
            {72, "abc", 0, -1, "x"}, {73, "abc", "", "x", 0}, {74, Probe.chars(200, 'a'), 2},
            {79, Probe.chars(200, 'a'), Probe.chars(200, 'a'), "a"},
            {80, "-", true, Probe.chars(200, 'a'), Probe.chars(200, 'a'), "a"},
            {88, -1, 1, -1}, {89, "zz", 1}, {90, 9, 1, 0, true}, {90, 9, 1, 2, true},
            {91, 9, 1, 0, true}, {91, 9, 1, 2, true}, {93, 1, Probe.grid(2, 2, 1, 1, 1, 1), 1},
            {94, 1, -1, 1}, {94, 1, 2, 1}, {99, 0, 0, 0, true, "s"},
            {99, 1, 1, 1, true, Probe.chars(255, 's')}, {101, -1, 100001, 100001},
            {102, -1, -1, -1}, {109, 1, 0}, {110, 1, 0}, {111, 0, 100001}, {112, 0, 100001},
            {114, 2, 1, "?"}
        };
        for (Object[] row : wrong) {
            Object[] arguments = java.util.Arrays.copyOfRange(row, 1, row.length);
            String error = Probe.answer((Integer) row[0], arguments);
            Probe.holds(row[0] + " is wrong", error.startsWith("error"));
            arguments[arguments.length - 1] = Probe.NAME;
            Probe.is(Probe.NAME, (Integer) row[0], arguments);
        }
    }

    // "but those of 119 to 126, TYPE and ERROR.TYPE"; ROW and COLUMN: "its value isn't asked"
    private static void notAsked() {
        for (int function = 119; function <= 126; function++) {
            boolean due = function == 122 || function == 124 || function == 125;
            Probe.is(due, function, Probe.DIV0);
        }
        Probe.is(16, 130, Probe.DIV0);
        Probe.is(2, 131, Probe.DIV0);
        Probe.is(12, 95, Probe.ranged(12, 3, Probe.grid(1, 1, Probe.DIV0)));
        Probe.is(3, 96, Probe.ranged(12, 3, Probe.grid(1, 1, Probe.DIV0)));
        Probe.is(VALUE, 95, Probe.DIV0);
        Probe.is(VALUE, 96, Probe.DIV0);
        Probe.is(1, 97, Probe.DIV0);
        Probe.is(1, 98, Probe.DIV0);
        // Grids that are searched or shown are not asked either.
        Probe.is(NA, 90, 1, Probe.DIV0, 1);
        Probe.is(NA, 92, 1, Probe.DIV0, NUM);
        Probe.is(NA, 93, 1, Probe.DIV0, 0);
        Probe.is(Probe.DIV0, 94, Probe.DIV0, 1);
        Probe.is(VALUE, 94, Probe.DIV0, -1);
        Probe.is(Probe.DIV0, 100, Probe.DIV0);
        Probe.is(1, 115, 2, 2, Probe.DIV0);
        Probe.is(3, 116, 2, 1, Probe.DIV0);
    }

    // "A text that would have more than 255 characters is #VALUE!."
    private static void tooManyCharacters() {
        String a127 = Probe.chars(127, 'a');
        String a254 = Probe.chars(254, 'a');
        String a255 = Probe.chars(255, 'a');
        Probe.is(a254 + "b", 72, a254, 255, 0, "b");
        Probe.is(VALUE, 72, a254, 255, 0, "bb");
        Probe.is("b" + a254, 72, a255, 1, 1, "b");
        Probe.is(VALUE, 72, a255, 1, 1, "bb");
        Probe.is(a255, 72, a255, 256, 9, "");
        Probe.is(VALUE, 72, a255, 256, 9, "b");
        Probe.is(Probe.chars(255, 'b'), 73, a127 + "b", "a", "bb");
        Probe.is(VALUE, 73, a127 + "bb", "a", "bb");
        Probe.is(a254 + "b", 73, a254 + "c", "c", "b", 1);
        Probe.is(VALUE, 73, a254 + "c", "c", "bb", 1);
        Probe.is("bb" + a254.substring(1), 73, a254, "a", "bb", 1);
        Probe.is(VALUE, 73, a255, "a", "bb", 255);
        Probe.is(a255, 73, a255, "a", "bb", 256);
        Probe.is(a255, 73, a255, "", "bb");
        Probe.is(a255, 73, a255, "a", "a");
        Probe.is(a255, 74, "a", 255);
        Probe.is(VALUE, 74, "a", 256);
        Probe.is(a254, 74, "aa", 127);
        Probe.is(VALUE, 74, "aa", 128);
        Probe.is(a255, 74, a255, 1);
        Probe.is(VALUE, 74, a255, 2);
        Probe.is(VALUE, 74, "aa", 1073741824);
        Probe.is(VALUE, 74, Probe.chars(128, 'a'), 33554432);
        Probe.is(a255, 79, a127, a127, "a");
        Probe.is(VALUE, 79, a127, a127, "aa");
        Probe.is(VALUE, 79, a255, "b", "");
        Probe.is(a255, 79, a255, "", "");
        Probe.is(a127 + "-" + a127, 80, "-", true, a127, a127);
        Probe.is(VALUE, 80, "--", true, a127, a127);
        Probe.is(a127 + "-" + a127, 80, "-", true, a127, "", a127, "");
        Probe.is(VALUE, 80, "-", false, a127, "", a127);
        Probe.is(VALUE, 80, "-", false, a255, "");
        Probe.is(a255, 80, "-", true, a255, "");
        Probe.is(Probe.chars(255, '-'), 80, "-", false, Probe.blank(256, 1));
        Probe.is(VALUE, 80, "-", false, Probe.blank(257, 1));
        Probe.is("s".repeat(250) + "!$A$1", 99, 1, 1, 1, true, "s".repeat(250));
        Probe.is(VALUE, 99, 1, 1, 1, true, "s".repeat(251));
        Probe.is("s".repeat(250) + "!R1C1", 99, 1, 1, 1, false, "s".repeat(250));
        Probe.is(VALUE, 99, 1, 1, 1, false, "s".repeat(251));
        Probe.is("s".repeat(252) + "!A1", 99, 1, 1, 4, true, "s".repeat(252));
        Probe.is(VALUE, 99, 1, 1, 4, true, "s".repeat(253));
        Probe.is(a255.toUpperCase(), 75, a255);
        Probe.is(a255, 76, a255);
        Probe.is("A" + a254, 77, a255);
        Probe.is(a255, 78, a255);
        Probe.is(a255, 67, a255, 255);
        Probe.is(a255, 68, a255, 256);
        Probe.is(a255, 69, a255, 1, 256);
    }

    // "The TRUTH OF a value: of its number, whether it isn't 0."
    private static void truths() {
        Object[][] all = {{0, "a---"}, {-0.0, "a---"}, {1E-299, "a"}, {-1E-299, "a"}, {1, "a"},
            {-1, "a"}, {true, "a"}, {false, "a---"}, {EMPTY, "a---"}, {LEFT_OUT, "a---"},
            {"0", "a---"}, {"-0", "a---"}, {"-0.000", "a---"}, {"0.001", "a"}, {"-0.001", "a"},
            {"00", "a---"}, {"TRUE", VALUE}, {"", VALUE}, {9.9E299, "a"}};
        for (Object[] row : all) {
            Probe.is(row[1], 80, "-", row[0], "a", Probe.blank(1, 3));
        }
    }

    // "one that is left out (one that is given as EMPTY isn't) is what stands there behind ="
    private static void leftOutStandsForWhatIsBehindTheSign() {
        Probe.Grid fallen = Probe.grid(1, 3, 5, 3, 1);
        Probe.Grid table = Probe.grid(2, 2, 1, "one", 3, "three");
        Probe.Grid turned = Probe.grid(2, 2, 1, 3, "one", "three");
        Object[][] rows = {
            {"h", "", 67, "hello"},
            {"o", "", 68, "hello"},
            {3, VALUE, 70, "l", "hello"},
            {3, VALUE, 71, "L", "hello"},
            {"101", "101", 88, 5, 2},
            {"one", NA, 90, 2, table, 2},
            {"one", NA, 91, 2, turned, 2},
            {3, NA, 93, 2, fallen},
            {"$A$1", VALUE, 99, 1, 1},
            {"$A$1", "R1C1", 99, 1, 1, 1},
            {1, NUM, 109, 1},
            {2, NUM, 110, 45298}
        };
        for (Object[] row : rows) {
            Object[] without = java.util.Arrays.copyOfRange(row, 3, row.length);
            Object[] with = java.util.Arrays.copyOf(without, without.length + 1);
            Probe.is(row[0], (Integer) row[2], without);
            with[without.length] = LEFT_OUT;
            Probe.is(row[0], (Integer) row[2], with);
            with[without.length] = EMPTY;
            Probe.is(row[1], (Integer) row[2], with);
        }
    }

    // "(but the second grid of LOOKUP, t of ADDRESS and the range of ROW and COLUMN: then as if it
    // weren't there)"
    private static void leftOutAsIfItWerentThere() {
        Probe.Grid row = Probe.grid(1, 2, 1, 2);
        Probe.is(2, 92, 2, row);
        Probe.is(2, 92, 2, row, LEFT_OUT);
        Probe.is(NA, 92, 2, row, EMPTY);
        Probe.is(EMPTY, 92, 1, row, EMPTY);
        Probe.is("$A$1", 99, 1, 1, 1, true);
        Probe.is("$A$1", 99, 1, 1, 1, true, LEFT_OUT);
        Probe.is("!$A$1", 99, 1, 1, 1, true, EMPTY);
        Probe.is(7, 95);
        Probe.is(7, 95, LEFT_OUT);
        Probe.is(VALUE, 95, EMPTY);
        Probe.is(5, 96);
        Probe.is(5, 96, LEFT_OUT);
        Probe.is(VALUE, 96, EMPTY);
    }

    // "else EMPTY": where no = stands, or where it can't be left out altogether
    private static void leftOutElseEmpty() {
        for (Object none : new Object[] {LEFT_OUT, EMPTY}) {
            Probe.is(0, 66, none);
            Probe.is("", 67, none, 3);
            Probe.is("", 69, "abc", 1, none);
            Probe.is(VALUE, 69, "abc", none, 1);
            Probe.is(1, 70, none, "abc");
            Probe.is(VALUE, 70, "a", none);
            Probe.is(1, 71, none, "abc");
            Probe.is("bc", 72, "abc", 1, 1, none);
            Probe.is("abc", 73, "abc", none, "x");
            Probe.is("bc", 73, "abc", "a", none);
            Probe.is(VALUE, 73, "abc", "a", "x", none);
            Probe.is("", 74, "abc", none);
            Probe.is("", 79, none);
            Probe.is("ab", 80, none, true, "a", "b");
            Probe.is(true, 81, none, "");
            Probe.is(VALUE, 82, none);
            Probe.is(VALUE, 83, none);
            Probe.is("", 87, none);
            Probe.is(NUM, 88, 1, none);
            Probe.is(NUM, 89, "1", none);
            Probe.is(VALUE, 90, 1, 1, none);
            Probe.is(1, 93, none, 0, 0);
            Probe.is(Probe.grid(1, 2, 3, 4), 94, Probe.grid(2, 2, 1, 2, 3, 4), 2, none);
            Probe.is(Probe.grid(2, 1, 2, 4), 94, Probe.grid(2, 2, 1, 2, 3, 4), none, 2);
            Probe.is(VALUE, 99, none, 1);
            Probe.is(2, 101, none, 1, 1);
            Probe.is(NUM, 101, none, none, 1);
            Probe.is(1, 101, none, 1, none);
            Probe.is(0, 102, none, none, none);
            Probe.is(30, 105, none);
            Probe.is(7, 109, none);
            Probe.is(5, 111, 5, none);
            Probe.is(-5, 113, none, 5);
            Probe.is(NUM, 114, 1, 2, none);
            Probe.is(5, 115, 2, 6, none);
            Probe.is(3, 116, 2, 1, none);
            Probe.is(6, 116, 6, none);
            Probe.is(true, 127, none);
            Probe.is(false, 128, none);
            Probe.is(NA, 131, none);
        }
    }
}
