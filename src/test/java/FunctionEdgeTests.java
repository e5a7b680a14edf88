import java.time.LocalDate;
import java.time.temporal.ChronoUnit;

/**
 * The boundary cases that the document names of the functions 66 to 132, in its order: what each
 * answers below, at and above the edges of what it takes.
 */
public final class FunctionEdgeTests {
    private static final Object EMPTY = Probe.EMPTY;
    private static final Object LEFT_OUT = Probe.LEFT_OUT;
    private static final Probe.Err VALUE = Probe.VALUE;
    private static final Probe.Err REF = Probe.REF;
    private static final Probe.Err NUM = Probe.NUM;
    private static final Probe.Err NA = Probe.NA;
    private static final int LAST = 2958465;
    private static final int MOST = Integer.MAX_VALUE;

    private FunctionEdgeTests() { }

    public static void main(String[] args) {
        left();
        middle();
        find();
        search();
        patterns();
        replace();
        substitute();
        repeat();
        proper();
        trim();
        join();
        characters();
        roman();
        base();
        decimal();
        alike();
        notAbove();
        table();
        lookUp();
        match();
        index();
        cells();
        address();
        transpose();
        days();
        date();
        time();
        seconds();
        weekday();
        weekNumber();
        monthsLater();
        difference();
        monthsOver();
        workdays();
        workday();
        kinds();
        numbersOfKinds();
        Probe.finish("FunctionEdgeTests");
    }

    // 66 LEN; 67, 68: "all if there are not so many; n below 0: #VALUE!"
    private static void left() {
        Probe.is(0, 66, "");
        Probe.is(1, 66, "a");
        Object[][] rows = {{-1, VALUE, VALUE}, {-MOST, VALUE, VALUE}, {-0.999, "", ""}, {0, "", ""},
            {0.999, "", ""}, {1, "a", "c"}, {2, "ab", "bc"}, {3, "abc", "abc"}, {4, "abc", "abc"},
            {MOST, "abc", "abc"}};
        for (Object[] row : rows) {
            Probe.is(row[1], 67, "abc", row[0]);
            Probe.is(row[2], 68, "abc", row[0]);
        }
        Probe.is("", 67, "", 1);
        Probe.is("", 68, "", 1);
        Probe.is(VALUE, 67, "", -1);
        Probe.is(VALUE, 68, "", -1);
    }

    // 69 MID: "n characters from s (from 1) on, as many as there are; s below 1, n below 0"
    private static void middle() {
        Object[][] rows = {{0, 1, VALUE}, {-1, 1, VALUE}, {0.999, 1, VALUE}, {1, -1, VALUE},
            {1, -0.999, ""}, {1, 0, ""}, {1, 1, "a"}, {3, 1, "c"}, {3, 2, "c"}, {2, 2, "bc"},
            {2, 3, "bc"}, {1, 3, "abc"}, {1, 4, "abc"}, {4, 1, ""}, {5, 1, ""}, {MOST, MOST, ""},
            {2, MOST, "bc"}, {4, -1, VALUE}, {0, -1, VALUE}, {-MOST, MOST, VALUE}};
        for (Object[] row : rows) {
            Probe.is(row[2], 69, "abc", row[0], row[1]);
        }
        Probe.is("", 69, "", 1, 1);
    }

    // 70 FIND: "#VALUE! if there is none, s is below 1 or above t's length + 1"
    private static void find() {
        Object[][] rows = {{0, VALUE, VALUE}, {-1, VALUE, VALUE}, {0.999, VALUE, VALUE}, {1, 3, 1},
            {3, 3, 3}, {4, 4, 4}, {4.999, 4, 4}, {5, VALUE, 5}, {6, VALUE, VALUE},
            {MOST, VALUE, VALUE}};
        for (Object[] row : rows) {
            Probe.is(row[1], 70, "l", "hell", row[0]);
            Probe.is(row[2], 70, "", "hell", row[0]);
            Probe.is(row[1], 71, "L", "hell", row[0]);
            Probe.is(row[2], 71, "", "hell", row[0]);
        }
        Probe.is(3, 70, "ll", "hell", 3);
        Probe.is(VALUE, 70, "ll", "hell", 4);
        Probe.is(1, 70, "hell", "hell");
        Probe.is(VALUE, 70, "hello", "hell");
        Probe.is(VALUE, 70, "hell", "hell", 2);
        Probe.is(1, 70, "", "", 1);
        Probe.is(VALUE, 70, "", "", 2);
        Probe.is(VALUE, 70, "a", "", 1);
        Probe.is(VALUE, 70, "H", "hell");
        Probe.is(VALUE, 70, "h?", "hell");
        Probe.is(VALUE, 70, "h*", "hell");
        Probe.is(255, 70, "b", Probe.chars(254, 'a') + "b", 255);
        Probe.is(256, 70, "", Probe.chars(255, 'a'), 256);
        Probe.is(VALUE, 70, "", Probe.chars(255, 'a'), 257);
    }

    // 71 SEARCH: likewise
    private static void search() {
        Probe.is(3, 71, "LL", "hell", 3);
        Probe.is(VALUE, 71, "LL", "hell", 4);
        Probe.is(1, 71, "HELL", "hell");
        Probe.is(VALUE, 71, "HELLO", "hell");
        Probe.is(VALUE, 71, "HELL", "hell", 2);
        Probe.is(1, 71, "", "", 1);
        Probe.is(VALUE, 71, "", "", 2);
        Probe.is(VALUE, 71, "?", "", 1);
        Probe.is(4, 71, "?", "hell", 4);
        Probe.is(VALUE, 71, "?", "hell", 5);
        Probe.is(4, 71, "*", "hell", 4);
        Probe.is(VALUE, 71, "*", "hell", 6);
        Probe.is(255, 71, "B", Probe.chars(254, 'a') + "b", 255);
        Probe.is(256, 71, "", Probe.chars(255, 'a'), 256);
        Probe.is(VALUE, 71, "", Probe.chars(255, 'a'), 257);
        Probe.is(1, 71, Probe.chars(255, '?'), Probe.chars(255, 'a'));
        Probe.is(VALUE, 71, Probe.chars(255, '?'), Probe.chars(254, 'a'));
        Probe.is(1, 71, Probe.chars(254, '?') + "*", Probe.chars(254, 'a'));
        Probe.is(VALUE, 71, Probe.chars(254, '?') + "a", Probe.chars(254, 'a'));
    }

    // "? any one, * any number, ~ before one of ? * ~ stands for it (another ~ for itself)"
    private static void patterns() {
        Object[][] rows = {
            {"a?c", "abc", 1}, {"a?c", "ac", VALUE}, {"a?c", "abbc", VALUE}, {"a*c", "ac", 1},
            {"a*c", "abc", 1}, {"a*c", "abbbc", 1}, {"a*c", "ab", VALUE}, {"?c", "c", VALUE},
            {"*c", "c", 1}, {"a~?c", "abc", VALUE}, {"a~?c", "a?c", 1}, {"a~*c", "abc", VALUE},
            {"a~*c", "a*c", 1}, {"a~*c", "ac", VALUE}, {"a~~c", "a~c", 1}, {"a~~c", "a~~c", VALUE},
            {"~~c", "a~~c", 3}, {"a~c", "a~c", 1}, {"a~c", "ac", VALUE}, {"a~", "a~", 1},
            {"a~", "a", VALUE}, {"~~?", "~b", 1}, {"~~?", "~", VALUE}, {"~~~?", "~?", 1},
            {"~~~?", "~b", VALUE}, {"~~~", "~~", 1}, {"~~~", "~", VALUE}, {"~~*", "a~", 2},
            {"~a?", "~ab", 1}, {"~a?", "ab", VALUE}, {"?*?", "ab", 1}, {"?*?", "a", VALUE},
            {"a**b", "ab", 1}, {"*?", "a", 1}, {"*?", "", VALUE}, {"*b*d", "abcd", 1},
            {"*d*b", "abcd", VALUE}, {"a*a", "aba", 1}, {"a*a", "ab", VALUE}, {"\u00FF?", "\u00FF\u0000", 1}
        };
        for (Object[] row : rows) {
            Probe.is(row[2], 71, row[0], row[1]);
        }
        // As a whole: what stands before or behind counts.
        Object[][] whole = {
            {"a?c", "abc", true}, {"a?c", "abcd", false}, {"a?c", "xabc", false}, {"a*", "a", true},
            {"a*", "ba", false}, {"*a", "a", true}, {"*a", "ab", false}, {"?", "a", true},
            {"?", "", false}, {"?", "ab", false}, {"*", "", true}, {"*", "ab", true},
            {"~?", "?", true}, {"~?", "~?", false}, {"~*", "*", true}, {"~*", "~*", false},
            {"~**", "*ab", true}, {"~**", "ab", false}, {"~~", "~~", true}, {"~~", "~", false},
            {"~~?", "~a", true}, {"~~?", "~~a", false}, {"a~b", "a~b", true}, {"a~b?", "a~bc", true},
            {"a~", "a~", true}, {"?~", "a~", true}, {"?~", "a", false}
        };
        for (Object[] row : whole) {
            Probe.is((Boolean) row[2] ? 1 : NA, 93, row[0], row[1], 0);
        }
    }

    // 72 REPLACE: "(behind the end, if s is beyond); s below 1, n below 0: #VALUE!"
    private static void replace() {
        Object[][] rows = {{0, 1, VALUE}, {-1, 1, VALUE}, {0.999, 0, VALUE}, {1, -1, VALUE},
            {1, -0.999, "XYabc"}, {1, 0, "XYabc"}, {1, 1, "XYbc"}, {1, 2, "XYc"}, {1, 3, "XY"},
            {1, 4, "XY"}, {3, 0, "abXYc"}, {3, 1, "abXY"}, {3, 2, "abXY"}, {3, MOST, "abXY"},
            {4, 0, "abcXY"}, {4, 1, "abcXY"}, {5, 0, "abcXY"}, {5, 1, "abcXY"},
            {MOST, MOST, "abcXY"}, {MOST, -1, VALUE}, {0, MOST, VALUE}};
        for (Object[] row : rows) {
            Probe.is(row[2], 72, "abc", row[0], row[1], "XY");
        }
        Probe.is("XY", 72, "", 1, 1, "XY");
        Probe.is("", 72, "", 9, 9, "");
    }

    // 73 SUBSTITUTE: "(none overlaps another one); k below 1: #VALUE! (asked first); f empty: t"
    private static void substitute() {
        Object[][] rows = {{-1, VALUE}, {0, VALUE}, {0.999, VALUE}, {1, "Xaaba"}, {2, "aaXba"},
            {2.999, "aaXba"}, {3, "aaaaba"}, {MOST, "aaaaba"}, {-MOST, VALUE}};
        for (Object[] row : rows) {
            Probe.is(row[1], 73, "aaaaba", "aa", "X", row[0]);
        }
        Probe.is("XXba", 73, "aaaaba", "aa", "X");
        Probe.is("Xa", 73, "aaa", "aa", "X");
        Probe.is("aaa", 73, "aaa", "aa", "X", 2);
        Probe.is("XbbX", 73, "ababbaba", "aba", "X");
        Probe.is(VALUE, 73, "abc", "", "X", 0);
        Probe.is("abc", 73, "abc", "", "X", 1);
        Probe.is("abc", 73, "abc", "", "X");
        Probe.is("", 73, "", "", "X");
        Probe.is("", 73, "", "a", "X");
        Probe.is("X", 73, "abc", "abc", "X");
        Probe.is("abc", 73, "abc", "abcd", "X");
        Probe.is("abX", 73, "abc", "c", "X", 1);
    }

    // 74 REPT: "n times (an empty t: empty); n below 0: #VALUE!"
    private static void repeat() {
        Object[][] rows = {{-1, VALUE}, {-0.999, ""}, {0, ""}, {0.999, ""}, {1, "ab"}, {2, "abab"},
            {-MOST, VALUE}};
        for (Object[] row : rows) {
            Probe.is(row[1], 74, "ab", row[0]);
        }
        for (int n : new int[] {0, 1, 255, 256, MOST}) {
            Probe.is("", 74, "", n);
        }
    }

    // 77 PROPER: "letters not behind a letter great, the others small"
    private static void proper() {
        Object[][] rows = {{"", ""}, {"a", "A"}, {"A", "A"}, {"aB", "Ab"}, {"AB", "Ab"},
            {"a1b", "A1B"}, {"1A", "1A"}, {"z@z[z`z{z", "Z@Z[Z`Z{Z"}, {"zAzZaZ", "Zazzaz"},
            {"it's", "It'S"}, {"\u00E9t\u00E9", "\u00E9T\u00E9"}, {"a b", "A B"}};
        for (Object[] row : rows) {
            Probe.is(row[1], 77, row[0]);
        }
    }

    // 78 TRIM: "without blanks (32) at both ends, of several inside one"
    private static void trim() {
        Object[][] rows = {{"", ""}, {" ", ""}, {"  ", ""}, {"a", "a"}, {" a", "a"}, {"a ", "a"},
            {"  a  ", "a"}, {"a b", "a b"}, {"a  b", "a b"}, {"a   b  c", "a b c"},
            {"\u001Fa\u001F", "\u001Fa\u001F"}, {"!a!", "!a!"}, {"\ta\u00A0", "\ta\u00A0"},
            {" \t ", "\t"}, {"a \t b", "a \t b"}};
        for (Object[] row : rows) {
            Probe.is(row[1], 78, row[0]);
        }
        Probe.is("b", 78, Probe.chars(254, ' ') + "b");
    }

    // 79 CONCATENATE, 80 TEXTJOIN: "the first error of a grid is the answer in any case, ahead of
    // too many characters"; "if the truth holds, without those that are empty"
    private static void join() {
        Object[] thirty = new Object[30];
        java.util.Arrays.fill(thirty, "z");
        Probe.is(Probe.chars(30, 'z'), 79, thirty);
        Probe.is("z", 79, "z");
        thirty[0] = "";
        thirty[1] = true;
        Probe.is(Probe.chars(28, 'z'), 80, thirty);
        thirty[29] = Probe.DIV0;
        Probe.is(Probe.DIV0, 80, thirty);
        Probe.is(Probe.DIV0, 79, thirty);
        String a200 = Probe.chars(200, 'a');
        Probe.is(VALUE, 80, "", true, Probe.grid(1, 3, a200, a200, "b"));
        Probe.is(Probe.DIV0, 80, "", true, Probe.grid(1, 3, a200, a200, Probe.DIV0));
        Probe.is(Probe.DIV0, 80, "", true, Probe.grid(1, 2, a200, a200), Probe.grid(1, 2, "", Probe.DIV0));
        Probe.is(Probe.NAME, 80, a200, false, Probe.grid(2, 2, "", Probe.NAME, Probe.DIV0, ""));
        Probe.is(NA, 80, "", true, Probe.grid(2, 1, NA, Probe.DIV0), Probe.NAME);
        Probe.is("", 80, "-", true, "");
        Probe.is("", 80, "-", false, "");
        Probe.is("", 80, "-", true, "", "");
        Probe.is("-", 80, "-", false, "", "");
        Probe.is("a", 80, "-", true, "", "a", "");
        Probe.is("-a-", 80, "-", false, "", "a", "");
        Probe.is("a-b", 80, "-", true, "a", "", "b");
        Probe.is("a--b", 80, "-", false, "a", "", "b");
        Probe.is("0", 80, "-", true, 0, EMPTY);
        Probe.is("FALSE- ", 80, "-", true, false, " ");
        Probe.is("1-2-3-4-5", 80, "-", true, Probe.grid(2, 2, 1, 2, 3, 4), 5);
    }

    // 82 CHAR: "1 .. 255; else #VALUE!", 83 CODE: "#VALUE! if it is empty"
    private static void characters() {
        Object[][] rows = {{-1, VALUE}, {0, VALUE}, {0.999, VALUE}, {1, "\u0001"}, {255, "\u00FF"},
            {255.999, "\u00FF"}, {256, VALUE}, {-255, VALUE}, {MOST, VALUE}, {65537, VALUE}};
        for (Object[] row : rows) {
            Probe.is(row[1], 82, row[0]);
        }
        Probe.is(VALUE, 83, "");
        Probe.is(0, 83, "\u0000");
        Probe.is(255, 83, "\u00FFa");
        Probe.is(true, 81, "", "");
        Probe.is(false, 81, "", " ");
        Probe.is(false, 81, "a", "A");
        Probe.is(true, 81, Probe.chars(255, 'x'), Probe.chars(255, 'x'));
        Probe.is(false, 81, Probe.chars(254, 'x') + "X", Probe.chars(255, 'x'));
    }

    // 87 ROMAN: "0 (the empty text) .. 3999 ..; else #VALUE!"
    private static void roman() {
        Object[][] rows = {{-1, VALUE}, {-0.999, ""}, {0, ""}, {0.999, ""}, {1, "I"}, {3, "III"},
            {4, "IV"}, {5, "V"}, {8, "VIII"}, {9, "IX"}, {10, "X"}, {39, "XXXIX"}, {40, "XL"},
            {50, "L"}, {89, "LXXXIX"}, {90, "XC"}, {99, "XCIX"}, {100, "C"}, {399, "CCCXCIX"},
            {400, "CD"}, {499, "CDXCIX"}, {500, "D"}, {899, "DCCCXCIX"}, {900, "CM"},
            {999, "CMXCIX"}, {1000, "M"}, {3999, "MMMCMXCIX"}, {3999.999, "MMMCMXCIX"},
            {4000, VALUE}, {MOST, VALUE}, {-MOST, VALUE}};
        for (Object[] row : rows) {
            Probe.is(row[1], 87, row[0]);
        }
    }

    // 88 BASE: "the number without what is behind its point (0 of -0.5), 0 to 9007199254740991, in
    // base n, 2 .. 36, .., at least l, 0 .. 255; else #NUM!"
    private static void base() {
        Object[][] numbers = {{-1, NUM}, {Math.nextUp(-1.0), "0"}, {-0.5, "0"}, {-0.0, "0"},
            {0.999, "0"}, {1.999, "1"}, {9007199254740991.0, Probe.chars(53, '1')},
            {9007199254740992.0, NUM}, {-9007199254740991.0, NUM}, {9.9E299, NUM},
            {-9.9E299, NUM}, {2147483648.5, "1" + Probe.chars(31, '0')}};
        for (Object[] row : numbers) {
            Probe.is(row[1], 88, row[0], 2);
        }
        Object[][] bases = {{-MOST, NUM}, {-2, NUM}, {0, NUM}, {1, NUM}, {1.999, NUM},
            {2, "100011"}, {10, "35"}, {11, "32"}, {35, "10"}, {36, "Z"}, {36.999, "Z"}, {37, NUM},
            {MOST, NUM}};
        for (Object[] row : bases) {
            Probe.is(row[1], 88, 35, row[0]);
        }
        Object[][] lengths = {{-1, NUM}, {-0.999, "11"}, {0, "11"}, {1, "11"}, {2, "11"}, {3, "011"},
            {255, Probe.chars(253, '0') + "11"}, {255.999, Probe.chars(253, '0') + "11"},
            {256, NUM}, {MOST, NUM}};
        for (Object[] row : lengths) {
            Probe.is(row[1], 88, 3, 2, row[0]);
        }
        Probe.is("0", 88, 0, 2, 0);
        Probe.is("0", 88, 0, 2, 1);
        Probe.is("00", 88, 0, 2, 2);
        Probe.is("9", 88, 9, 36);
        Probe.is("A", 88, 10, 36);
    }

    // 89 DECIMAL: "#NUM! if n isn't 2 .. 36, a character is no digit, or it would be above
    // 9007199254740991; 0 for an empty t"
    private static void decimal() {
        Object[][] bases = {{-MOST, NUM}, {0, NUM}, {1, NUM}, {1.999, NUM}, {2, 3}, {36, 37},
            {36.999, 37}, {37, NUM}, {MOST, NUM}};
        for (Object[] row : bases) {
            Probe.is(row[1], 89, "11", row[0]);
        }
        Object[][] digits = {{"0", 1, NUM}, {"0", 0, NUM}, {"1", 2, 1}, {"2", 2, NUM}, {"9", 10, 9}, {"a", 10, NUM}, {"A", 11, 10},
            {"a", 11, 10}, {"B", 11, NUM}, {"b", 11, NUM}, {"Y", 35, 34}, {"Z", 35, NUM},
            {"z", 36, 35}, {"Z", 36, 35}, {"/", 36, NUM}, {":", 36, NUM}, {"@", 36, NUM},
            {"[", 36, NUM}, {"`", 36, NUM}, {"{", 36, NUM}, {"-1", 36, NUM}, {"1.0", 36, NUM},
            {"1 ", 36, NUM}, {"0", 2, 0}, {"", 2, 0}, {"", 36, 0}, {"\u00FF", 36, NUM}};
        for (Object[] row : digits) {
            Probe.is(row[2], 89, row[0], row[1]);
        }
        Probe.is(9007199254740991.0, 89, "9007199254740991", 10);
        Probe.is(NUM, 89, "9007199254740992", 10);
        Probe.is(9007199254740991.0, 89, "0009007199254740991", 10);
        Probe.is(9007199254740991.0, 89, Probe.chars(202, '0') + Probe.chars(53, '1'), 2);
        Probe.is(NUM, 89, Probe.chars(54, '1'), 2);
        Probe.is(9007199254740991.0, 89, Long.toString(9007199254740991L, 36), 36);
        Probe.is(NUM, 89, Long.toString(9007199254740992L, 36), 36);
        // so many that a long would come round
        Probe.is(NUM, 89, "1" + Probe.chars(64, '0'), 2);
        Probe.is(NUM, 89, Probe.chars(255, '1'), 2);
        Probe.is(NUM, 89, Probe.chars(255, 'Z'), 36);
    }

    // "ALIKE if they are of the same kind and are the same numbers or truths, or texts the same but
    // for sizes; EMPTY is like none"; "x ..: if it is EMPTY, the number 0; an error: that";
    // "Errors in the row are passed over. #N/A if there is none."
    private static void alike() {
        Object[] values = {0, 1, "0", "1", "", "a", true, false};
        for (int x = 0; x < values.length; x++) {
            for (int v = 0; v < values.length; v++) {
                Probe.is(x == v ? 1 : NA, 93, values[x], values[v], 0);
            }
            Probe.is(NA, 93, values[x], EMPTY, 0);
            Probe.is(NA, 93, values[x], EMPTY, 1);
            Probe.is(NA, 93, values[x], EMPTY, -1);
            Probe.is(NA, 93, values[x], NA, 0);
            Probe.is(NA, 93, values[x], NUM, 1);
            Probe.is(2, 93, values[x], Probe.grid(1, 2, NUM, values[x]), 0);
            Probe.is(2, 93, values[x], Probe.grid(1, 3, NUM, values[x], NUM), 1);
        }
        Probe.is(1, 93, EMPTY, 0, 0);
        Probe.is(NA, 93, EMPTY, EMPTY, 0);
        Probe.is(NA, 93, EMPTY, "", 0);
        Probe.is(NA, 93, EMPTY, false, 0);
        Probe.is(1, 93, LEFT_OUT, 0, 0);
        Probe.is(NUM, 93, NUM, NUM, 0);
        Probe.is(1, 93, 0.1, Probe.grid(1, 2, 0.1, 0.1), 0);
        Probe.is(NA, 93, 0.1, Math.nextUp(0.1), 0);
        Probe.is(1, 93, "aB", "Ab", 0);
        Probe.is(NA, 93, "ab", "abc", 0);
        Probe.is(NA, 93, "abc", "ab", 0);
        Probe.is(1, 93, 0, -0.0, 0);
        Probe.is(1, 93, "b", Probe.grid(2, 1, "B", "b"), 0);
    }

    // "NOT ABOVE another of its kind (numbers; texts by their characters, small letters taken as
    // great ones; truths)"; "NEARLY: the last that is not above x"
    private static void notAbove() {
        Object[][] orders = {{1, 2}, {-2, -1}, {0.1, Math.nextUp(0.1)}, {"", "a"}, {"a", "B"},
            {"A", "b"}, {"a", "aa"}, {"ab", "B"}, {"Z", "["}, {"z", "["}, {"z", "_"}, {"@", "a"},
            {"z", "\u0080"}, {"\u007F", "\u0080"}, {"\u00FE", "\u00FF"}, {false, true}, {"1", "A"},
            {"\u0000", "\u0001"}, {"", "\u0000"}, {"10", "9"}};
        for (Object[] row : orders) {
            Probe.is(1, 93, row[1], row[0]);
            Probe.is(NA, 93, row[0], row[1]);
            Probe.is(1, 93, row[0], row[1], -1);
            Probe.is(NA, 93, row[1], row[0], -1);
            for (Object same : row) {
                Probe.is(1, 93, same, same);
                Probe.is(1, 93, same, same, -1);
            }
        }
        Probe.is(1, 93, "a", "A", 1);
        Probe.is(1, 93, "a", "A", -1);
        Probe.is(3, 93, 2, Probe.grid(1, 4, 1, 9, 2, 9));
        Probe.is(4, 93, 2, Probe.grid(1, 4, 1, 9, 2, 1));
        Probe.is(NA, 93, "?", Probe.grid(1, 1, "a"), 1);
        Probe.is(1, 93, "?", Probe.grid(1, 1, "a"), 0);
        Probe.is(NA, 93, "*", Probe.grid(1, 1, "+"), 1);
        Probe.is(NA, 93, 1, Probe.grid(1, 3, "0", true, EMPTY));
    }

    // 90, 91: "nearly if the truth holds, else exactly"; "n below 1: #VALUE!, beyond the grid:
    // #REF! (both asked ahead of finding x)"
    private static void table() {
        Probe.Grid upright = Probe.grid(3, 2, 1, "a", 3, "b", 5, "c");
        Probe.Grid across = Probe.grid(2, 3, 1, 3, 5, "a", "b", "c");
        Probe.Grid[] grids = {upright, across};
        for (int k = 0; k < 2; k++) {
            int function = 90 + k;
            for (Object x : new Object[] {3, 0, "none", EMPTY}) {
                Probe.is(VALUE, function, x, grids[k], -1);
                Probe.is(VALUE, function, x, grids[k], 0);
                Probe.is(VALUE, function, x, grids[k], 0.999, false);
                Probe.is(VALUE, function, x, grids[k], -MOST);
                Probe.is(REF, function, x, grids[k], 3);
                Probe.is(REF, function, x, grids[k], MOST, false);
            }
            Probe.is(3, function, 3, grids[k], 1);
            Probe.is("b", function, 3, grids[k], 2);
            Probe.is("b", function, 3, grids[k], 2.999);
            Object[][] nearly = {{0.999, NA}, {1, "a"}, {2.999, "a"}, {3, "b"}, {4, "b"}, {5, "c"},
                {6, "c"}};
            for (Object[] row : nearly) {
                Probe.is(row[1], function, row[0], grids[k], 2);
                Probe.is(row[1], function, row[0], grids[k], 2, true);
                Probe.is(((Number) row[0]).doubleValue() % 2 == 1 ? row[1] : NA, function, row[0],
                        grids[k], 2, false);
            }
            Probe.is(NA, function, EMPTY, grids[k], 2, 0);
        }
        Probe.is("z", 90, EMPTY, Probe.grid(1, 2, 0, "z"), 2, false);
        Probe.is("z", 91, EMPTY, Probe.grid(2, 1, 0, "z"), 2, false);
        Probe.is(NA, 90, "b", upright, 2, false);
        Probe.is(NA, 91, "b", across, 2, false);
        Probe.is(1, 90, 1, 1, 1);
        Probe.is(REF, 90, 1, 1, 2);
        Probe.is(1, 91, 1, 1, 1);
        Probe.is(REF, 91, 1, 1, 2);
        Probe.is(9, 90, 240, pairs(240), 2);
        Probe.is("first", 90, "X*", Probe.grid(2, 2, "xy", "first", "x", "second"), 2, false);
    }

    private static Probe.Grid pairs(int rows) {
        Object[] values = new Object[2 * rows];
        for (int k = 0; k < rows; k++) {
            values[2 * k] = k + 1;
            values[2 * k + 1] = k == rows - 1 ? 9 : 1;
        }
        return Probe.grid(rows, 2, values);
    }

    // 92 LOOKUP: "#N/A if it hasn't so many; without a second one: in the first row, the value in
    // the last row, if there are more columns than rows, else columns likewise"
    private static void lookUp() {
        Probe.Grid row = Probe.grid(1, 3, 1, 2, 3);
        Probe.is("b", 92, 2, row, Probe.grid(1, 2, "a", "b"));
        Probe.is(NA, 92, 3, row, Probe.grid(1, 2, "a", "b"));
        Probe.is("c", 92, 3, row, Probe.grid(3, 1, "a", "b", "c"));
        Probe.is("d", 92, 9, Probe.grid(2, 2, 1, 2, 3, 4), Probe.grid(4, 1, "a", "b", "c", "d"));
        Probe.is("c", 92, 3, Probe.grid(2, 2, 1, 2, 3, 4), Probe.grid(2, 2, "a", "b", "c", "d"));
        Probe.is(NA, 92, 0, row, Probe.grid(1, 3, "a", "b", "c"));
        Probe.is(NA, 92, 0, row);
        // more columns than rows by one; as many; more rows
        Probe.is(5, 92, 2, Probe.grid(2, 3, 1, 2, 3, 4, 5, 6));
        Probe.is(2, 92, 1, Probe.grid(2, 2, 1, 2, 3, 4));
        Probe.is(4, 92, 3, Probe.grid(2, 2, 1, 2, 3, 4));
        Probe.is(4, 92, 3, Probe.grid(3, 2, 1, 2, 3, 4, 5, 6));
        Probe.is(6, 92, 5, Probe.grid(3, 2, 1, 2, 3, 4, 5, 6));
        Probe.is(1, 92, 1, 1);
        Probe.is(NA, 92, 0, 1);
        Probe.is(0, 92, EMPTY, 0);
        // without a second one the rest of the grid isn't searched
        Probe.is(6, 92, 9, Probe.grid(2, 3, 1, 2, 3, 4, 5, 6));
        Probe.is(2, 92, 2, Probe.grid(2, 2, 1, 2, 3, 2));
        Probe.is("y", 92, 9, Probe.grid(2, 3, 1, 2, 3, 4, 5, 6), Probe.grid(1, 6, 1, 2, 3, 4, 5, "y"));
    }

    // 93 MATCH: "exactly with n 0, nearly above 0, below 0 the last that x is not above; a grid
    // with more rows and columns than one: #N/A"
    private static void match() {
        Probe.Grid grid = Probe.grid(1, 5, 3, 2, 1, 2, 3);
        Object[][] rows = {{-MOST, 5}, {-1, 5}, {-0.999, 2}, {0, 2}, {0.999, 2}, {1, 4}, {MOST, 4}};
        for (Object[] row : rows) {
            Probe.is(row[1], 93, 2, grid, row[0]);
        }
        Probe.is(4, 93, 2, grid);
        Probe.is(2, 93, 1, Probe.grid(1, 2, 2, 1), 0);
        Probe.is(2, 93, 1, Probe.grid(2, 1, 2, 1), 0);
        Probe.is(1, 93, 1, 1, 0);
        Probe.is(NA, 93, 1, Probe.grid(2, 2, 1, 1, 1, 1), 0);
        Probe.is(NA, 93, 1, Probe.grid(2, 2, 1, 1, 1, 1), 1);
        Probe.is(NA, 93, 1, Probe.grid(2, 2, 1, 1, 1, 1), -1);
        Probe.is(NA, 93, 4, Probe.grid(1, 2, 3, 3), -1);
        Probe.is(2, 93, 3, Probe.grid(1, 2, 3, 3), -1);
    }

    // 94 INDEX: "r or c 0: all rows, columns"; "Of a grid of one row, without a third argument, r is
    // the column, and the row 1 (r 0: the whole row); else c is 1 if it isn't there, 0 if it is left
    // out. One below 0: #VALUE!; else one beyond: #REF!"
    private static void index() {
        Probe.Grid grid = Probe.grid(2, 3, 1, 2, 3, 4, 5, 6);
        Object first = Probe.grid(1, 3, 1, 2, 3);
        Object[][] rows = {{-1, 1, VALUE}, {1, -1, VALUE}, {-1, 4, VALUE}, {3, -1, VALUE},
            {-0.999, 1, Probe.grid(2, 1, 1, 4)}, {1, -0.999, first}, {0, 0, grid},
            {0, 1, Probe.grid(2, 1, 1, 4)}, {0, 3, Probe.grid(2, 1, 3, 6)}, {0, 4, REF}, {1, 0, first},
            {2, 0, Probe.grid(1, 3, 4, 5, 6)}, {3, 0, REF}, {1, 1, 1}, {1, 3, 3}, {2, 1, 4},
            {2, 3, 6}, {1, 4, REF}, {3, 1, REF}, {3, 4, REF}, {2.999, 3.999, 6}, {MOST, 1, REF},
            {1, MOST, REF}, {-MOST, -MOST, VALUE}, {0, -1, VALUE}, {-1, 0, VALUE},
            {1, LEFT_OUT, first}, {2, LEFT_OUT, Probe.grid(1, 3, 4, 5, 6)}, {LEFT_OUT, 2,
            Probe.grid(2, 1, 2, 5)}, {0, LEFT_OUT, grid}};
        for (Object[] row : rows) {
            Probe.is(row[2], 94, grid, row[0], row[1]);
        }
        Object[][] alone = {{-1, VALUE}, {0, Probe.grid(2, 1, 1, 4)}, {1, 1}, {2, 4}, {3, REF}};
        for (Object[] row : alone) {
            Probe.is(row[1], 94, grid, row[0]);
        }
        Object[][] ofOneRow = {{-1, VALUE}, {0, first}, {1, 1}, {2, 2}, {3, 3}, {4, REF}};
        for (Object[] row : ofOneRow) {
            Probe.is(row[1], 94, first, row[0]);
        }
        Probe.is(3, 94, first, 1, 3);
        Probe.is(REF, 94, first, 2, 3);
        Probe.is(first, 94, first, 1, LEFT_OUT);
        Probe.is(REF, 94, first, 3, LEFT_OUT);
        Object[][] ofOneColumn = {{-1, VALUE}, {0, Probe.grid(2, 1, 7, 8)}, {1, 7}, {2, 8}, {3, REF}};
        for (Object[] row : ofOneColumn) {
            Probe.is(row[1], 94, Probe.grid(2, 1, 7, 8), row[0]);
        }
        Object[][] ofOne = {{-1, VALUE}, {0, 7}, {1, 7}, {2, REF}};
        for (Object[] row : ofOne) {
            Probe.is(row[1], 94, 7, row[0]);
        }
    }

    // 95 ROW, 96 COLUMN: "of its upper left cell, or the HOME; not a RANGE: #VALUE!"
    private static void cells() {
        int[][] places = {{1, 1}, {1048576, 1}, {1, 16384}, {1048576, 16384}};
        for (int[] place : places) {
            Probe.is(place[0], 95, Probe.ranged(place[0], place[1], Probe.grid(1, 1, 3)));
            Probe.is(place[1], 96, Probe.ranged(place[0], place[1], Probe.grid(1, 1, NA)));
        }
        Probe.is(1048575, 95, Probe.ranged(1048575, 16382, Probe.blank(2, 3)));
        Probe.is(16382, 96, Probe.ranged(1048575, 16382, Probe.blank(2, 3)));
        Probe.is(VALUE, 95, Probe.blank(2, 3));
        Probe.is(VALUE, 96, 1);
        Probe.is(7, 95);
        Probe.is(5, 96);
        Probe.is(1, 97, Probe.blank(1, 509));
        Probe.is(509, 98, Probe.blank(1, 509));
        Probe.is(512, 97, Probe.blank(512, 1));
        Probe.is(1, 98, Probe.blank(512, 1));
        Probe.is(16, 97, Probe.blank(16, 32));
        Probe.is(32, 98, Probe.blank(16, 32));
    }

    // 99 ADDRESS: "r not 1 .. 1048576, c not 1 .. 16384, n not 1 .. 4: #VALUE!"
    private static void address() {
        Object[][] rows = {{-1, VALUE}, {0, VALUE}, {0.999, VALUE}, {1, "$A$1"},
            {1048576, "$A$1048576"}, {1048576.999, "$A$1048576"}, {1048577, VALUE}, {MOST, VALUE}};
        for (Object[] row : rows) {
            Probe.is(row[1], 99, row[0], 1);
        }
        Object[][] columns = {{-1, VALUE}, {0, VALUE}, {0.999, VALUE}, {1, "$A$1"}, {26, "$Z$1"},
            {27, "$AA$1"}, {702, "$ZZ$1"}, {703, "$AAA$1"}, {16384, "$XFD$1"},
            {16384.999, "$XFD$1"}, {16385, VALUE}, {MOST, VALUE}};
        for (Object[] row : columns) {
            Probe.is(row[1], 99, 1, row[0]);
        }
        Object[][] ways = {{-1, VALUE, VALUE}, {0, VALUE, VALUE}, {0.999, VALUE, VALUE},
            {1, "$C$2", "R2C3"}, {2, "C$2", "R2C[3]"}, {3, "$C2", "R[2]C3"}, {4, "C2", "R[2]C[3]"},
            {4.999, "C2", "R[2]C[3]"}, {5, VALUE, VALUE}, {MOST, VALUE, VALUE}};
        for (Object[] row : ways) {
            Probe.is(row[1], 99, 2, 3, row[0]);
            Probe.is(row[1], 99, 2, 3, row[0], true);
            Probe.is(row[2], 99, 2, 3, row[0], false);
        }
        Probe.is("R1048576C16384", 99, 1048576, 16384, 1, 0);
        Probe.is(VALUE, 99, 1048577, 1, 1, 0);
        Probe.is(VALUE, 99, 1, 16385, 1, 0);
        Probe.is("s!C2", 99, 2, 3, 4, true, "s");
        Probe.is("!C2", 99, 2, 3, 4, true, "");
        Probe.is("!R2C3", 99, 2, 3, 1, false, EMPTY);
        Probe.is("C2", 99, 2, 3, 4, true, LEFT_OUT);
        int at = 0;
        for (char a = '@'; a <= 'Z'; a++) {
            for (char b = a == '@' ? '@' : 'A'; b <= 'Z'; b++) {
                for (char c = 'A'; c <= 'Z' && at < 16384; c++) {
                    at++;
                    String name = (a == '@' ? "" : "" + a) + (b == '@' ? "" : "" + b) + c;
                    if (at % 26 < 2 || at % 676 < 30 || at > 16380) {
                        Probe.is(name + "1", 99, 1, at, 4);
                    }
                }
            }
        }
        Probe.same("all columns", at, 16384);
    }

    // 100 TRANSPOSE; promise 9: "64 if it is a grid of more than one value"
    private static void transpose() {
        Probe.is(5, 100, 5);
        Probe.is(Probe.grid(2, 1, 5, 6), 100, Probe.grid(1, 2, 5, 6));
        Probe.is(Probe.grid(1, 2, 5, 6), 100, Probe.grid(2, 1, 5, 6));
        Probe.is(Probe.blank(1, 512), 100, Probe.blank(512, 1));
        Probe.is(Probe.blank(512, 1), 100, Probe.blank(1, 512));
        Probe.is(Probe.blank(32, 16), 100, Probe.blank(16, 32));
        WordFunctions x = new WordFunctions();
        x.argument(1, 2);
        Probe.same("9: a grid of two values", x.call(100), 64);
        Probe.same("10: its size", x.size(false) + " " + x.size(true), "2 1");
        x.argument(1, 1);
        Probe.same("9: a grid of one value", x.call(100), 0);
        Probe.same("10: its size", x.size(false) + " " + x.size(true), "1 1");
        x.argument(1, 512);
        Probe.same("9: a grid of 512 values", x.call(100), 64);
        Probe.same("11: the last one", x.look(511, 0) + " " + x.look(512, 0), "0 -1");
    }

    private static int day(int year, int month, int day) {
        return (int) ChronoUnit.DAYS.between(LocalDate.of(1899, 12, 30),
                LocalDate.of(year, month, day));
    }

    // "DATES are days .., 0 .. 2958465 ..; the DAY of a number is the whole one not above it, #NUM!
    // if that is none of these"
    private static void days() {
        for (int function = 103; function <= 108; function++) {
            Probe.is(NUM, function, -1);
            Probe.is(NUM, function, -1E-9);
            Probe.is(NUM, function, LAST + 1);
            Probe.is(NUM, function, 9.9E299);
            Probe.is(NUM, function, -9.9E299);
        }
        Object[][] dates = {{0, 1899, 12, 30}, {-0.0, 1899, 12, 30}, {0.999, 1899, 12, 30},
            {1, 1899, 12, 31}, {1.999, 1899, 12, 31}, {2, 1900, 1, 1}, {60, 1900, 2, 28},
            {61, 1900, 3, 1}, {day(2000, 2, 28) + 1, 2000, 2, 29}, {day(2000, 2, 28) + 2, 2000, 3, 1},
            {day(2100, 2, 28) + 1, 2100, 3, 1}, {day(2024, 2, 28) + 1, 2024, 2, 29},
            {day(2023, 2, 28) + 1, 2023, 3, 1}, {day(2023, 12, 31), 2023, 12, 31},
            {day(2023, 12, 31) + 1, 2024, 1, 1}, {LAST, 9999, 12, 31}, {LAST + 0.999, 9999, 12, 31},
            {Math.nextDown(LAST + 1.0), 9999, 12, 31}};
        for (Object[] row : dates) {
            Probe.is(row[1], 103, row[0]);
            Probe.is(row[2], 104, row[0]);
            Probe.is(row[3], 105, row[0]);
        }
        for (int function = 109; function <= 110; function++) {
            Probe.is(NUM, function, -0.001, 1);
            Probe.is(NUM, function, LAST + 1, 1);
        }
        Object[][] pairs = {{-0.001, 5}, {5, -0.001}, {LAST + 1, 5}, {5, LAST + 1}};
        for (Object[] pair : pairs) {
            Probe.is(NUM, 113, pair[0], pair[1]);
            Probe.is(NUM, 114, pair[0], pair[1], "D");
            Probe.is(NUM, 115, pair[0], pair[1]);
        }
        for (double none : new double[] {-0.001, LAST + 1}) {
            Probe.is(NUM, 111, none, 0);
            Probe.is(NUM, 112, none, 0);
            Probe.is(NUM, 116, none, 0);
        }
        Probe.is(LAST, 113, LAST + 0.999, 0.999);
        Probe.is(-LAST, 113, 0, LAST);
        Probe.is(LAST, 114, 0.999, LAST, "D");
    }

    // 101 DATE: "y below 1900 counts from there; ..; #NUM! if y isn't 0 .. 9999, m or d is above
    // 100000 in size, or it is no date"
    private static void date() {
        Object[][] years = {{-1, NUM}, {-0.999, 2}, {0, 2}, {1, day(1901, 1, 1)},
            {1899, day(3799, 1, 1)}, {1900, 2}, {1901, day(1901, 1, 1)}, {9999, day(9999, 1, 1)},
            {9999.999, day(9999, 1, 1)}, {10000, NUM}, {MOST, NUM}, {-MOST, NUM}};
        for (Object[] row : years) {
            Probe.is(row[1], 101, row[0], 1, 1);
        }
        Probe.is(NUM, 101, -1, 13, 1);
        Probe.is(NUM, 101, 10000, 0, 1);
        // Months and days that meet in the calendar again
        Probe.is(day(LocalDate.of(1900, 1, 1).plusMonths(99999).minusDays(100001)), 101, 1900, 100000,
                -100000);
        Probe.is(NUM, 101, 1900, 100001, -100000);
        Probe.is(NUM, 101, 1900, 100000, -100001);
        Probe.is(day(LocalDate.of(9999, 1, 1).minusMonths(100001).plusDays(99999)), 101, 9999,
                -100000, 100000);
        Probe.is(NUM, 101, 9999, -100001, 100000);
        Probe.is(NUM, 101, 9999, -100000, 100001);
        Probe.is(day(LocalDate.of(2000, 1, 1).plusDays(99999)), 101, 2000, 1, 100000);
        Probe.is(NUM, 101, 2000, 1, 100001);
        Probe.is(day(LocalDate.of(2300, 1, 1).minusDays(100001)), 101, 2300, 1, -100000);
        Probe.is(NUM, 101, 2300, 1, -100001);
        Probe.is(NUM, 101, 2000, MOST, 1);
        Probe.is(NUM, 101, 2000, 1, -MOST);
        // The first and the last date
        Probe.is(0, 101, 1900, 1, -1);
        Probe.is(NUM, 101, 1900, 1, -2);
        Probe.is(0, 101, 1900, 0, 30);
        Probe.is(NUM, 101, 1900, 0, 29);
        Probe.is(1, 101, 1900, 0, 31);
        Probe.is(LAST, 101, 9999, 12, 31);
        Probe.is(NUM, 101, 9999, 12, 32);
        Probe.is(LAST, 101, 9999, 13, 0);
        Probe.is(NUM, 101, 9999, 13, 1);
        // Months beyond a year, days beyond a month
        Probe.is(day(2023, 12, 1), 101, 2024, 0, 1);
        Probe.is(day(2023, 11, 1), 101, 2024, -1, 1);
        Probe.is(day(2023, 1, 1), 101, 2024, -11, 1);
        Probe.is(day(2022, 12, 1), 101, 2024, -12, 1);
        Probe.is(day(2024, 12, 1), 101, 2024, 12, 1);
        Probe.is(day(2025, 1, 1), 101, 2024, 13, 1);
        Probe.is(day(2024, 1, 31), 101, 2024, 2, 0);
        Probe.is(day(2024, 2, 29), 101, 2024, 2, 29);
        Probe.is(day(2024, 3, 1), 101, 2024, 2, 30);
        Probe.is(day(2100, 3, 1), 101, 2100, 2, 29);
    }

    private static int day(LocalDate date) {
        return day(date.getYear(), date.getMonthValue(), date.getDayOfMonth());
    }

    // 102 TIME: "modulo a day, divided by 86400.0; one not 0 .. 32767: #NUM!"
    private static void time() {
        long[] seconds = {3600, 60, 1};
        for (int k = 0; k < 3; k++) {
            Object[][] rows = {{-1, NUM}, {-0.999, 0.0}, {0, 0.0},
                {32767, 32767 * seconds[k] % 86400 / 86400.0},
                {32767.999, 32767 * seconds[k] % 86400 / 86400.0}, {32768, NUM}, {MOST, NUM},
                {-MOST, NUM}};
            for (Object[] row : rows) {
                Object[] arguments = {0, 0, 0};
                arguments[k] = row[0];
                Probe.is(row[1], 102, arguments);
            }
        }
        Probe.is(86399 / 86400.0, 102, 23, 59, 59);
        Probe.is(0, 102, 23, 59, 60);
        Probe.is(0, 102, 23, 60, 0);
        Probe.is(0, 102, 24, 0, 0);
        Probe.is(1 / 86400.0, 102, 24, 0, 1);
    }

    // 106, 107, 108: "rounded (a half up) to whole seconds, modulo a day"
    private static void seconds() {
        // A 256th of a day is 337.5 seconds, and no double stands between.
        Object[][] rows = {{1 / 256.0, 0, 5, 38}, {Math.nextDown(1 / 256.0), 0, 5, 37},
            {5 + 1 / 256.0, 0, 5, 38}, {LAST + 1 / 256.0, 0, 5, 38}, {3 / 256.0, 0, 16, 53},
            {0.0, 0, 0, 0}, {-0.0, 0, 0, 0}, {0.4 / 86400.0, 0, 0, 0}, {0.6 / 86400.0, 0, 0, 1},
            {59.4 / 86400.0, 0, 0, 59}, {59.6 / 86400.0, 0, 1, 0}, {3599.4 / 86400.0, 0, 59, 59},
            {3599.6 / 86400.0, 1, 0, 0}, {43199.4 / 86400.0, 11, 59, 59}, {0.5, 12, 0, 0},
            {86399.4 / 86400.0, 23, 59, 59}, {86399.6 / 86400.0, 0, 0, 0},
            {Math.nextDown(1.0), 0, 0, 0}, {1.0, 0, 0, 0}, {Math.nextDown(LAST + 1.0), 0, 0, 0}};
        for (Object[] row : rows) {
            Probe.is(row[1], 106, row[0]);
            Probe.is(row[2], 107, row[0]);
            Probe.is(row[3], 108, row[0]);
        }
    }

    // 109 WEEKDAY: "1 Sunday 1 .. Saturday 7; 2 Monday 1 ..; 3 Monday 0 ..; else #NUM!"
    private static void weekday() {
        // June 2 2024 is a Sunday.
        int sunday = day(2024, 6, 2);
        for (int k = 0; k < 7; k++) {
            Probe.is(k + 1, 109, sunday + k, 1);
            Probe.is(k == 0 ? 7 : k, 109, sunday + k, 2);
            Probe.is(k == 0 ? 6 : k - 1, 109, sunday + k, 3);
            Probe.is(k + 1, 109, sunday + k + 0.999);
        }
        Probe.is(7, 109, 0);
        Probe.is(1, 109, 1);
        Probe.is(6, 109, LAST);
        Object[][] ways = {{-1, NUM}, {0, NUM}, {0.999, NUM}, {1, 7}, {2, 6}, {3, 5}, {3.999, 5},
            {4, NUM}, {11, NUM}, {MOST, NUM}};
        for (Object[] row : ways) {
            Probe.is(row[1], 109, 0, row[0]);
        }
    }

    // 110 WEEKNUM: "beginning on Sunday (1) or Monday (2), the first one on January 1 in any case ..;
    // else #NUM!"
    private static void weekNumber() {
        Object[][] ways = {{-1, NUM}, {0, NUM}, {0.999, NUM}, {1, 2}, {1.999, 2}, {2, 1},
            {2.999, 1}, {3, NUM}, {21, NUM}, {MOST, NUM}};
        for (Object[] row : ways) {
            Probe.is(row[1], 110, day(2024, 1, 7), row[0]);
        }
        // 2023 begins on a Sunday, 2024 on a Monday, 2022 on a Saturday, 2000 too, with 366 days.
        Object[][] rows = {{day(2023, 1, 1), 1, 1}, {day(2023, 1, 2), 1, 2}, {day(2023, 1, 7), 1, 2},
            {day(2023, 1, 8), 2, 2}, {day(2023, 1, 9), 2, 3}, {day(2023, 12, 31), 53, 53},
            {day(2024, 1, 1), 1, 1}, {day(2024, 1, 6), 1, 1}, {day(2024, 1, 7), 2, 1},
            {day(2024, 1, 8), 2, 2}, {day(2024, 12, 31), 53, 53}, {day(2022, 1, 1), 1, 1},
            {day(2022, 1, 2), 2, 1}, {day(2022, 1, 3), 2, 2}, {day(2000, 12, 30), 53, 53},
            {day(2000, 12, 31), 54, 53}, {0, 52, 53}, {1, 53, 53}, {2, 1, 1}, {LAST, 53, 53}};
        for (Object[] row : rows) {
            Probe.is(row[1], 110, row[0], 1);
            Probe.is(row[2], 110, row[0], 2);
        }
    }

    // 111 EDATE: "the month's last if there is none such", 112 EOMONTH; "of both #NUM! if n is above
    // 100000 in size or it is no date"
    private static void monthsLater() {
        Object[][] rows = {
            {day(2024, 1, 29), 1, day(2024, 2, 29), day(2024, 2, 29)},
            {day(2024, 1, 30), 1, day(2024, 2, 29), day(2024, 2, 29)},
            {day(2023, 1, 28), 1, day(2023, 2, 28), day(2023, 2, 28)},
            {day(2023, 1, 29), 1, day(2023, 2, 28), day(2023, 2, 28)},
            {day(2024, 3, 30), 1, day(2024, 4, 30), day(2024, 4, 30)},
            {day(2024, 3, 31), 1, day(2024, 4, 30), day(2024, 4, 30)},
            {day(2024, 3, 31), -1, day(2024, 2, 29), day(2024, 2, 29)},
            {day(2024, 2, 29), 12, day(2025, 2, 28), day(2025, 2, 28)},
            {day(2024, 2, 29), 48, day(2028, 2, 29), day(2028, 2, 29)},
            {day(2024, 12, 15), 1, day(2025, 1, 15), day(2025, 1, 31)},
            {day(2024, 1, 15), -1, day(2023, 12, 15), day(2023, 12, 31)},
            {day(2024, 1, 15), 0, day(2024, 1, 15), day(2024, 1, 31)},
            {day(2024, 1, 15), -0.999, day(2024, 1, 15), day(2024, 1, 31)},
            {day(2024, 1, 15), 0.999, day(2024, 1, 15), day(2024, 1, 31)},
            {LAST, 0, LAST, LAST}, {LAST, 1, NUM, NUM}, {LAST - 31, 1, LAST - 1, LAST},
            {LAST, -97200, 1, 1}, {LAST - 1, -97200, 0, 1}, {LAST - 2, -97200, NUM, 1},
            {LAST, -97201, NUM, NUM}, {0, 97200, LAST - 1, LAST}, {0, 97201, NUM, NUM},
            {0, 0, 0, 1}, {0, -1, NUM, NUM}, {31, -1, 0, 1}, {30, -1, NUM, 1}, {32, -1, 1, 1},
            {33, -2, NUM, 1}, {0, 100000, NUM, NUM}, {0, 100001, NUM, NUM}, {LAST, -100000, NUM, NUM},
            {LAST, -100001, NUM, NUM}, {0, MOST, NUM, NUM}, {LAST, -MOST, NUM, NUM}};
        for (Object[] row : rows) {
            Probe.is(row[2], 111, row[0], row[1]);
            Probe.is(row[3], 112, row[0], row[1]);
        }
    }

    // 114 DATEDIF: "a later than b, or another t: #NUM!; sizes of t don't matter"
    private static void difference() {
        for (String t : new String[] {"Y", "M", "D", "YM", "MD", "YD", "y", "m", "d", "ym", "yM",
            "Ym", "md", "mD", "Md", "yd", "yD", "Yd"}) {
            Probe.is(0, 114, 5, 5, t);
            Probe.is(0, 114, 5.999, 5, t);
            Probe.is(NUM, 114, 6, 5, t);
            Probe.is(t.equalsIgnoreCase("D") || t.length() == 2 && !t.equalsIgnoreCase("YM") ? 1 : 0,
                    114, 5, 6, t);
        }
        for (Object t : new Object[] {"", " ", "YY", "MM", "DD", "DY", "DM", "MY", "Y ", " Y", "YMD",
            "X", "Y\u0000", "9", 1, true, EMPTY, LEFT_OUT, "-", "\u00D9"}) {
            Probe.is(NUM, 114, 5, 6, t);
        }
        Probe.is(8100, 114, 1, LAST, "Y");
        Probe.is(97200, 114, 1, LAST, "M");
        Probe.is(LAST - 1, 114, 1, LAST, "D");
    }

    // "(A month is over when the day's number comes again, or the next month has begun where there
    // is none such: from the first of that days are counted.)"
    private static void monthsOver() {
        Object[][] rows = {
            // a, b, Y, M, YM, MD, YD
            {day(2023, 1, 15), day(2023, 2, 14), 0, 0, 0, 30, 30},
            {day(2023, 1, 15), day(2023, 2, 15), 0, 1, 1, 0, 31},
            {day(2023, 1, 31), day(2023, 2, 28), 0, 0, 0, 28, 28},
            {day(2023, 1, 31), day(2023, 3, 1), 0, 1, 1, 0, 29},
            {day(2023, 1, 31), day(2023, 3, 2), 0, 1, 1, 1, 30},
            {day(2023, 1, 31), day(2023, 3, 30), 0, 1, 1, 29, 58},
            {day(2023, 1, 31), day(2023, 3, 31), 0, 2, 2, 0, 59},
            {day(2023, 1, 31), day(2023, 4, 30), 0, 2, 2, 30, 89},
            {day(2023, 1, 31), day(2023, 5, 1), 0, 3, 3, 0, 90},
            {day(2023, 1, 28), day(2023, 2, 28), 0, 1, 1, 0, 31},
            {day(2023, 1, 29), day(2023, 2, 28), 0, 0, 0, 30, 30},
            {day(2024, 1, 29), day(2024, 2, 29), 0, 1, 1, 0, 31},
            {day(2023, 12, 31), day(2024, 1, 1), 0, 0, 0, 1, 1},
            {day(2023, 12, 31), day(2024, 1, 31), 0, 1, 1, 0, 31},
            {day(2023, 3, 15), day(2024, 3, 14), 0, 11, 11, 28, 365},
            {day(2023, 3, 15), day(2024, 3, 15), 1, 12, 0, 0, 0},
            {day(2024, 2, 29), day(2025, 2, 28), 0, 11, 11, 30, 365},
            {day(2024, 2, 29), day(2025, 3, 1), 1, 12, 0, 0, 0},
            {day(2024, 2, 29), day(2025, 3, 2), 1, 12, 0, 1, 1},
            {day(2024, 2, 29), day(2028, 2, 28), 3, 47, 11, 30, 364},
            {day(2024, 2, 29), day(2028, 2, 29), 4, 48, 0, 0, 0},
            {day(2023, 6, 30), day(2024, 6, 29), 0, 11, 11, 30, 365}};
        String[] units = {"Y", "M", "YM", "MD", "YD"};
        for (Object[] row : rows) {
            for (int u = 0; u < units.length; u++) {
                Probe.is(row[2 + u], 114, row[0], row[1], units[u]);
            }
        }
    }

    // 115 NETWORKDAYS: "both with them, ..; below 0 if b is earlier"
    private static void workdays() {
        // June 3 2024 is a Monday.
        int monday = day(2024, 6, 3);
        Object[][] rows = {{0, 0, 1}, {0, 4, 5}, {0, 5, 5}, {0, 6, 5}, {0, 7, 6}, {-1, 0, 1},
            {-2, -1, 0}, {-3, 0, 2}, {4, 4, 1}, {5, 5, 0}, {6, 6, 0}, {4, 0, -5}, {7, 0, -6},
            {6, 5, 0}, {0, -1, -1}, {0, -3, -2}, {1, 0, -2}};
        for (Object[] row : rows) {
            Probe.is(row[2], 115, monday + (Integer) row[0], monday + (Integer) row[1]);
        }
        Object[][] free = {{monday, 4}, {monday + 0.999, 4}, {monday - 0.001, 5}, {monday + 4.999, 4},
            {monday + 5, 5}, {String.valueOf(monday), 5}, {true, 5}, {NA, 5}, {EMPTY, 5},
            {Probe.grid(1, 3, monday, monday, monday + 0.5), 4},
            {Probe.grid(3, 1, monday, NA, monday + 1), 3}, {Probe.grid(2, 2, "x", monday, true, NUM), 4},
            {Probe.grid(1, 5, monday, monday + 1, monday + 2, monday + 3, monday + 4), 0},
            {Probe.grid(1, 5, monday + 4, monday + 3, monday + 2, monday + 1, monday), 0}};
        for (Object[] row : free) {
            Probe.is(row[1], 115, monday, monday + 6, row[0]);
            Probe.is(-(Integer) row[1], 115, monday + 6, monday, row[0]);
        }
        Probe.is(0, 115, 0, 0);
        Probe.is(0, 115, 0, 1);
        Probe.is(1, 115, 0, 2);
        Probe.is(-1, 115, 2, 0);
        Probe.is(1, 115, LAST, LAST);
        Probe.is(0, 115, LAST, LAST, LAST);
        Probe.is(2113190, 115, 0, LAST);
        Probe.is(-2113190, 115, LAST, 0);
        Probe.is(0, 115, 1, 1, 1);
    }

    // 116 WORKDAY: "a itself for 0; #NUM! if n is above 100000 in size or it is no date"
    private static void workday() {
        int monday = day(2024, 6, 3);
        Object[][] rows = {{0, 0, 0}, {0, 1, 1}, {0, 4, 4}, {0, 5, 7}, {4, 1, 7}, {5, 1, 7},
            {6, 1, 7}, {5, 0, 5}, {6, 0, 6}, {7, -1, 4}, {6, -1, 4}, {5, -1, 4}, {4, -1, 3},
            {7, -5, 0}, {7, -6, -3}, {0, -1, -3}, {0, 0.999, 0}, {0, -0.999, 0}};
        for (Object[] row : rows) {
            Probe.is(monday + (Integer) row[2], 116, monday + (Integer) row[0], row[1]);
        }
        Object week = Probe.grid(1, 5, monday + 3, monday, monday + 1.5, monday + 2, monday + 4);
        Probe.is(monday + 7, 116, monday, 1, week);
        Probe.is(monday + 7, 116, monday - 1, 1, week);
        Probe.is(monday - 3, 116, monday + 7, -1, week);
        Probe.is(monday, 116, monday, 0, week);
        Probe.is(monday + 2, 116, monday, 1, monday + 1);
        Probe.is(monday + 1, 116, monday, 1, monday + 2);
        Probe.is(monday + 1, 116, monday, 1, monday);
        // what an earlier call's grid held is free no more
        Probe.is(monday + 1, 116, monday + 3, -1, monday + 2);
        Probe.is(monday + 2, 116, monday + 3, -1);
        Probe.is(monday + 4, 116, monday + 2, 1, monday + 3);
        Probe.is(monday + 3, 116, monday + 2, 1);
        Probe.is(139999, 116, 0, 100000);
        Probe.is(139999, 116, 0, 100000.999);
        Probe.is(NUM, 116, 0, 100001);
        Probe.is(NUM, 116, 0, MOST);
        Probe.is(LAST - 140000, 116, LAST, -100000);
        Probe.is(NUM, 116, LAST, -100001);
        Probe.is(NUM, 116, LAST, -MOST);
        Probe.is(0, 116, 0, 0);
        Probe.is(LAST, 116, LAST, 0);
        Probe.is(2, 116, 0, 1);
        Probe.is(2, 116, 3, -1);
        Probe.is(NUM, 116, 2, -1);
        Probe.is(NUM, 116, 3, -2);
        Probe.is(NUM, 116, 3, -1, 2);
        Probe.is(LAST, 116, LAST - 1, 1);
        Probe.is(NUM, 116, LAST, 1);
        Probe.is(NUM, 116, LAST - 1, 2);
        Probe.is(NUM, 116, LAST - 1, 1, LAST);
    }

    // 119 to 126: "truths of the value"; "ISERR (not #N/A)"
    private static void kinds() {
        Object[] values = {EMPTY, LEFT_OUT, 0, -1.5, "", "a", false, true, Probe.NULL, Probe.DIV0,
            VALUE, REF, Probe.NAME, NUM, new Probe.Err(8), NA};
        // of ISBLANK, ISNUMBER, ISTEXT, ISNONTEXT, ISLOGICAL, ISERROR, ISERR, ISNA
        String[] truths = {"10010000", "10010000", "01010000", "01010000", "00100000", "00100000",
            "00011000", "00011000", "00010110", "00010110", "00010110", "00010110", "00010110",
            "00010110", "00010110", "00010101"};
        for (int k = 0; k < values.length; k++) {
            for (int function = 119; function <= 126; function++) {
                Probe.is(truths[k].charAt(function - 119) == '1', function, values[k]);
            }
        }
    }

    // 127 ISEVEN, 128 ISODD, 129 NA(), 130 TYPE: "64 for a grid of more than one value", 131
    // ERROR.TYPE: "#N/A for others", 132 PI()
    private static void numbersOfKinds() {
        Object[][] wholes = {{0, true}, {-0.0, true}, {1, false}, {-1, false}, {2, true}, {-2, true},
            {0.999, true}, {1.999, false}, {-0.999, true}, {-1.999, false}, {2147483646, true},
            {2147483647, false}, {-2147483647, false}, {EMPTY, true}, {LEFT_OUT, true},
            {true, false}, {"2.999", true}, {"3", false}};
        for (Object[] row : wholes) {
            Probe.is(row[1], 127, row[0]);
            Probe.is(!(Boolean) row[1], 128, row[0]);
        }
        Probe.is(NA, 129);
        Object[][] types = {{EMPTY, 1}, {LEFT_OUT, 1}, {0, 1}, {"", 2}, {false, 4}, {NA, 16},
            {Probe.grid(1, 1, NA), 16}, {Probe.grid(1, 2, NA, NA), 64}, {Probe.grid(2, 1, 1, 1), 64},
            {Probe.blank(1, 512), 64}};
        for (Object[] row : types) {
            Probe.is(row[1], 130, row[0]);
        }
        for (int error = 1; error <= 8; error++) {
            Probe.is(error, 131, new Probe.Err(error));
        }
        for (Object other : new Object[] {EMPTY, LEFT_OUT, 0, 3, "", "#N/A", true}) {
            Probe.is(NA, 131, other);
        }
        Probe.is(3.141592653589793, 132);
    }
}
