/** Promise 9: the answers of the functions 66 to 89, and what numbers, wholes and texts are. */
public final class TextTests {
    private TextTests() { }

    public static void main(String[] args) {
        numbersOfValues();
        wholes();
        textsOfValues();
        asking();
        sides();
        finding();
        searching();
        replacing();
        substituting();
        sizes();
        joining();
        characters();
        numerals();
        Probe.finish("TextTests");
    }

    private static void numbersOfValues() {
        // BASE takes any number but hides its fraction: HOUR, MINUTE and SECOND tell that.
        Probe.is("0", 88, Probe.EMPTY, 10);
        Probe.is("1", 88, true, 10);
        Probe.is("0", 88, false, 10);
        Probe.is("12", 88, "12", 10);
        Probe.is("12", 88, "12.999", 10);
        Probe.is("999999999", 88, "999999999", 10);
        Probe.is("7", 88, "007", 10);
        Probe.is("0", 88, "-0", 10);
        Probe.is("0", 88, "-0.5", 10);
        Probe.is(Probe.NUM, 88, "-1", 10);
        String[] none = {"", "-", "1234567890", "1.", ".5", "1.2345", "1.2.3", "+1", " 1", "1 ",
            "--1", "1-", "1e3", "-.5", "-.", ".", "a", "TRUE", "1,5", "12.a", "1.-2", "\u00B2"};
        for (String text : none) {
            Probe.is(Probe.VALUE, 88, text, 10);
        }
        Probe.is(6, 106, "0.25");
        Probe.is(12, 106, "12.5");
        Probe.is(7, 107, "0.005");
        Probe.is(12, 108, "0.005");
        Probe.is(Probe.DIV0, 88, Probe.DIV0, 10);
    }

    private static void wholes() {
        Probe.is(true, 128, 3.9);
        Probe.is(true, 128, -3.9);
        Probe.is(true, 128, 2147483647.9);
        Probe.is(true, 128, -2147483647.9);
        Probe.is(Probe.NUM, 128, 2147483648.0);
        Probe.is(Probe.NUM, 128, -2147483648.0);
        Probe.is(Probe.NUM, 128, 9E299);
        Probe.is(Probe.VALUE, 128, "x");
        Probe.is(true, 127, "-2.5");
    }

    private static void textsOfValues() {
        Object[][] texts = {
            {0, "0"}, {-0.0, "0"}, {100, "100"}, {0.5, "0.5"}, {-0.5, "-0.5"}, {1.25, "1.25"},
            {-12.034, "-12.034"}, {0.0004, "0"}, {-0.0004, "0"}, {0.0005, "0.001"},
            {-0.0005, "-0.001"}, {2.9996, "3"}, {1.10, "1.1"}, {0.05, "0.05"}, {0.001, "0.001"},
            {123456789012L, "123456789012"}, {999999999999.0, "999999999999"},
            {999999999999.9999, "1000000000000"}, {1E12, Probe.VALUE}, {-1E12, Probe.VALUE},
            {9E299, Probe.VALUE}, {-999999999999.5, "-999999999999.5"}, {1E-300, "0"},
            {true, "TRUE"}, {false, "FALSE"}, {Probe.EMPTY, ""}, {"a b", "a b"}, {"", ""},
            {Probe.NULL, Probe.NULL}, {Probe.NA, Probe.NA}, {Probe.LEFT_OUT, ""}
        };
        for (Object[] row : texts) {
            Probe.is(row[1], 79, row[0]);
        }
    }

    private static void asking() {
        // The first one that is none gives its error, ahead of all else that may be wrong.
        Probe.is(Probe.NA, 67, Probe.NA, Probe.REF);
        Probe.is(Probe.REF, 67, "a", Probe.REF);
        Probe.is(Probe.VALUE, 69, "abc", "x", Probe.NA);
        Probe.is(Probe.NA, 69, "abc", 0, Probe.NA);
        Probe.is(Probe.NUM, 69, "abc", 0, 1E10);
        Probe.is(Probe.NA, 72, "abc", 0, -1, Probe.NA);
        Probe.is(Probe.NAME, 73, "abc", "", "x", Probe.NAME);
        Probe.is(Probe.NA, 88, -5, 99, Probe.NA);
        Probe.is(Probe.VALUE, 89, "zz", "zz");
        Probe.is(Probe.DIV0, 70, "a", "b", Probe.DIV0);
        Probe.is(Probe.DIV0, 71, 1E12 - 1, Probe.DIV0, Probe.NA);
        Probe.is(Probe.VALUE, 70, 1E12, Probe.DIV0);
        Probe.is(Probe.NULL, 79, Probe.chars(255, 'a'), "b", Probe.NULL);
        // Its value is that at the upper left.
        Probe.is(3, 66, Probe.grid(2, 2, "abc", Probe.NA, 1, 2));
        Probe.is(Probe.NA, 66, Probe.grid(1, 2, Probe.NA, "abc"));
        Probe.is("ab", 67, Probe.grid(2, 1, "abc", "d"), Probe.grid(1, 2, 2, "x"));
    }

    private static void sides() {
        Probe.is(5, 66, "hello");
        Probe.is(0, 66, Probe.EMPTY);
        Probe.is(0, 66, Probe.LEFT_OUT);
        Probe.is(4, 66, true);
        Probe.is(255, 66, Probe.chars(255, 'x'));
        Probe.is("h", 67, "hello");
        Probe.is("h", 67, "hello", Probe.LEFT_OUT);
        Probe.is("", 67, "hello", Probe.EMPTY);
        Probe.is("", 67, "hello", 0);
        Probe.is("", 67, "hello", -0.9);
        Probe.is("hello", 67, "hello", 5);
        Probe.is("hello", 67, "hello", 2147483647);
        Probe.is(Probe.VALUE, 67, "hello", -1);
        Probe.is("", 67, "");
        Probe.is("o", 68, "hello");
        Probe.is("o", 68, "hello", Probe.LEFT_OUT);
        Probe.is("lo", 68, "hello", 2.9);
        Probe.is("hello", 68, "hello", 99);
        Probe.is("", 68, "hello", Probe.EMPTY);
        Probe.is(Probe.VALUE, 68, "hello", -2);
        Probe.is("ell", 69, "hello", 2, 3);
        Probe.is("o", 69, "hello", 5, 3);
        Probe.is("", 69, "hello", 6, 3);
        Probe.is("", 69, "hello", 2147483647, 2147483647);
        Probe.is("hello", 69, "hello", 1, 2147483647);
        Probe.is("", 69, "hello", 2, 0);
        Probe.is("", 69, "hello", 2, Probe.LEFT_OUT);
        Probe.is(Probe.VALUE, 69, "hello", 0, 3);
        Probe.is(Probe.VALUE, 69, "hello", Probe.LEFT_OUT, 3);
        Probe.is(Probe.VALUE, 69, "hello", 1, -1);
    }

    private static void finding() {
        Probe.is(3, 70, "l", "hello");
        Probe.is(4, 70, "l", "hello", 4);
        Probe.is(3, 70, "l", "hello", Probe.LEFT_OUT);
        Probe.is(Probe.VALUE, 70, "l", "hello", Probe.EMPTY);
        Probe.is(Probe.VALUE, 70, "l", "hello", 5);
        Probe.is(Probe.VALUE, 70, "L", "hello");
        Probe.is(1, 70, "hello", "hello");
        Probe.is(Probe.VALUE, 70, "hellox", "hello");
        Probe.is(2, 70, "", "hello", 2);
        Probe.is(6, 70, "", "hello", 6);
        Probe.is(Probe.VALUE, 70, "", "hello", 7);
        Probe.is(Probe.VALUE, 70, "", "hello", 0);
        Probe.is(Probe.VALUE, 70, "", "hello", -3);
        Probe.is(Probe.VALUE, 70, "h", "hello", 2147483647);
        Probe.is(1, 70, "", "");
        Probe.is(Probe.VALUE, 70, "a", "");
        Probe.is(3, 70, "aab", "aaaab");
        Probe.is(1, 70, "?", "?x");
        Probe.is(Probe.VALUE, 70, "?", "x");
    }

    private static void searching() {
        Probe.is(2, 71, "?l*", "HELLO");
        Probe.is(3, 71, "L", "hello");
        Probe.is(3, 71, "l", "HELLO");
        Probe.is(4, 71, "l", "HELLO", 4);
        Probe.is(2, 71, "~*", "a*b");
        Probe.is(2, 71, "~?", "a?b");
        Probe.is(2, 71, "~~", "a~b");
        Probe.is(2, 71, "~b", "a~b");
        Probe.is(3, 71, "~", "ab~");
        Probe.is(Probe.VALUE, 71, "~*", "ab");
        Probe.is(1, 71, "~~~*?", "~*b");
        Probe.is(Probe.VALUE, 71, "~~~*?", "~*");
        Probe.is(2, 71, "~~*b", "a~xb");
        Probe.is(3, 71, "b*d", "a bcd");
        Probe.is(Probe.VALUE, 71, "d*b", "a bcd");
        Probe.is(2, 71, "", "abc", 2);
        Probe.is(4, 71, "", "abc", 4);
        Probe.is(Probe.VALUE, 71, "", "abc", 5);
        Probe.is(Probe.VALUE, 71, "a", "abc", 0);
        Probe.is(Probe.VALUE, 71, "a", "abc", -1);
        Probe.is(3, 71, "?", "abc", 3);
        Probe.is(Probe.VALUE, 71, "?", "abc", 4);
        Probe.is(2, 71, "*", "abc", 2);
        Probe.is(2, 71, "**", "abc", 2);
        Probe.is(1, 71, "*c", "abc");
        Probe.is(Probe.VALUE, 71, "*c?", "abc");
        Probe.is(1, 71, "???", "abc");
        Probe.is(Probe.VALUE, 71, "????", "abc");
        Probe.is(1, 71, "[", "[{");
        Probe.is(Probe.VALUE, 71, "{", "[");
        Probe.is(Probe.VALUE, 71, "\u00E4", "\u00C4");
        Probe.is(255, 71, "b", Probe.chars(254, 'a') + "B");
        Probe.is(Probe.VALUE, 71, Probe.chars(127, '*') + "b", Probe.chars(255, 'a'));
    }

    private static void replacing() {
        Probe.is("hXYo", 72, "hello", 2, 3, "XY");
        Probe.is("XYhello", 72, "hello", 1, 0, "XY");
        Probe.is("helloXY", 72, "hello", 6, 2, "XY");
        Probe.is("helloXY", 72, "hello", 99, 2, "XY");
        Probe.is("heXY", 72, "hello", 3, 2147483647, "XY");
        Probe.is("hello", 72, "hello", 2147483647, 2147483647, "");
        Probe.is("heo", 72, "hello", 3, 2, Probe.LEFT_OUT);
        Probe.is(Probe.VALUE, 72, "hello", 0, 1, "x");
        Probe.is(Probe.VALUE, 72, "hello", 1, -1, "x");
        Probe.is(Probe.chars(254, 'a') + "b", 72, Probe.chars(254, 'a'), 255, 0, "b");
        Probe.is(Probe.VALUE, 72, Probe.chars(254, 'a'), 255, 0, "bb");
    }

    private static void substituting() {
        Probe.is("banoa", 73, "banana", "an", "o", 2);
        Probe.is("booa", 73, "banana", "an", "o");
        Probe.is("ba", 73, "banana", "an", "");
        Probe.is("banana", 73, "banana", "an", "o", 3);
        Probe.is("banana", 73, "banana", "AN", "o");
        Probe.is("xa", 73, "aaa", "aa", "x");
        Probe.is("xa", 73, "aaa", "aa", "x", 1);
        Probe.is("aaa", 73, "aaa", "aa", "x", 2);
        Probe.is("aaaa", 73, "aa", "a", "aa");
        Probe.is("a*b", 73, "a?b", "?", "*");
        Probe.is(Probe.VALUE, 73, "banana", "an", "o", 0);
        Probe.is(Probe.VALUE, 73, "banana", "an", "o", -1);
        Probe.is(Probe.VALUE, 73, "banana", "an", "o", Probe.LEFT_OUT);
        Probe.is(Probe.VALUE, 73, "banana", "an", "o", Probe.EMPTY);
        Probe.is(Probe.VALUE, 73, "banana", "", "o", 0);
        Probe.is("banana", 73, "banana", "", "o", 1);
        Probe.is("banana", 73, "banana", "", "o");
        Probe.is("", 73, "", "a", "o");
        Probe.is(Probe.VALUE, 73, Probe.chars(128, 'a'), "a", "bb");
        Probe.is(Probe.chars(254, 'b'), 73, Probe.chars(127, 'a'), "a", "bb");
        Probe.is(Probe.VALUE, 73, Probe.chars(255, 'a'), "a", Probe.chars(255, 'b'));
        Probe.is("", 73, Probe.chars(255, 'a'), "a", "");
        Probe.is("ababab", 74, "ab", 3);
        Probe.is("", 74, "ab", 0);
        Probe.is("", 74, "ab", Probe.LEFT_OUT);
        Probe.is("", 74, "", 2147483647);
        Probe.is(Probe.VALUE, 74, "", -1);
        Probe.is(Probe.VALUE, 74, "a", -1);
        Probe.is(Probe.chars(255, 'a'), 74, "a", 255);
        Probe.is(Probe.VALUE, 74, "a", 256);
        Probe.is(Probe.VALUE, 74, "ab", 2147483647);
    }

    private static void sizes() {
        Probe.is("AZAZ@[`{09\u00E4", 75, "azAZ@[`{09\u00E4");
        Probe.is("azaz@[`{09\u00C4", 76, "azAZ@[`{09\u00C4");
        Probe.is("TRUE", 75, true);
        Probe.is("true", 76, true);
        Probe.is("Hello World'S 2Nd-Day", 77, "hELLO wORLD's 2nd-day");
        Probe.is("\u00E4A", 77, "\u00E4a");
        Probe.is("True", 77, true);
        Probe.is("Aaa Zzz [A@A`A{A", 77, "AAa ZZz [A@A`A{A");
        Probe.is("a b c", 78, "  a   b c ");
        Probe.is("", 78, "   ");
        Probe.is("", 78, "");
        Probe.is("a\tb", 78, "a\tb");
        Probe.is("a", 78, "a");
        Probe.is("1.5", 78, 1.5);
    }

    private static void joining() {
        Probe.is("a1.5TRUE-0.125", 79, "a", 1.5, true, -0.125);
        Probe.is("ab", 79, "a", Probe.LEFT_OUT, Probe.EMPTY, "b");
        Probe.is(Probe.NA, 79, "a", Probe.NA, Probe.REF);
        Probe.is("a", 79, Probe.grid(1, 2, "a", "b"));
        Probe.is(Probe.chars(255, 'a'), 79, Probe.chars(200, 'a'), Probe.chars(55, 'a'));
        Probe.is(Probe.VALUE, 79, Probe.chars(200, 'a'), Probe.chars(56, 'a'));
        Probe.is(Probe.REF, 79, Probe.chars(200, 'a'), Probe.chars(200, 'a'), Probe.REF);
        Probe.is("a-2", 80, "-", true, Probe.grid(2, 2, "a", Probe.EMPTY, "", 2));
        Probe.is("a---2-", 80, "-", false, Probe.grid(2, 2, "a", Probe.EMPTY, "", 2), Probe.LEFT_OUT);
        Probe.is("a-", 80, "-", Probe.LEFT_OUT, "a", Probe.LEFT_OUT);
        Probe.is("a", 80, "-", 1, "a", Probe.LEFT_OUT);
        Probe.is("-a", 80, "-", 0, Probe.EMPTY, "a");
        Probe.is("a,b,c,d", 80, ",", "2", Probe.grid(2, 1, "a", "b"), Probe.grid(1, 2, "c", "d"));
        Probe.is("", 80, ",", true, Probe.blank(3, 3));
        Probe.is(",,,,,,,,", 80, ",", false, Probe.blank(3, 3));
        Probe.is("abc", 80, Probe.EMPTY, true, Probe.grid(1, 3, "a", "b", "c"));
        Probe.is(Probe.VALUE, 80, ",", "x", Probe.NA);
        Probe.is(Probe.NULL, 80, Probe.NULL, Probe.NA, "a");
        Probe.is(Probe.DIV0, 80, ",", true, "a", Probe.grid(1, 3, "", Probe.DIV0, Probe.NA));
        Probe.is(Probe.VALUE, 80, ",", true, Probe.grid(1, 2, 1E12, Probe.NA));
        Probe.is(Probe.NA, 80, Probe.chars(200, 'a'), false, Probe.grid(1, 4, 1, 2, 3, Probe.NA));
        Probe.is(Probe.VALUE, 80, Probe.chars(200, 'a'), false, Probe.grid(1, 3, 1, 2, 3));
        Probe.is(Probe.chars(255, 'a'), 80, "a", false, Probe.blank(16, 16));
        Probe.is(Probe.VALUE, 80, "a", false, Probe.blank(257, 1));
        Probe.is("", 80, Probe.chars(255, 'a'), true, Probe.blank(254, 2));
    }

    private static void characters() {
        Probe.is(true, 81, "aB", "aB");
        Probe.is(false, 81, "ab", "aB");
        Probe.is(true, 81, 1, "1");
        Probe.is(true, 81, Probe.EMPTY, "");
        Probe.is(true, 81, true, "TRUE");
        Probe.is(false, 81, "a", "a ");
        Probe.is(Probe.NA, 81, "a", Probe.NA);
        Probe.is("A", 82, 65);
        Probe.is("\u0001", 82, 1.9);
        Probe.is("\u00FF", 82, 255.9);
        Probe.is(Probe.VALUE, 82, 0);
        Probe.is(Probe.VALUE, 82, 256);
        Probe.is(Probe.VALUE, 82, -65);
        Probe.is(Probe.VALUE, 82, Probe.LEFT_OUT);
        Probe.is(65, 83, "ABC");
        Probe.is(255, 83, "\u00FF");
        Probe.is(0, 83, "\u0000");
        Probe.is(49, 83, 12);
        Probe.is(Probe.VALUE, 83, "");
        Probe.is(Probe.VALUE, 83, Probe.EMPTY);
    }

    private static void numerals() {
        Object[][] romans = {{0, ""}, {1, "I"}, {4, "IV"}, {9, "IX"}, {14, "XIV"}, {40, "XL"},
            {49, "XLIX"}, {90, "XC"}, {400, "CD"}, {900, "CM"}, {1994, "MCMXCIV"},
            {3888, "MMMDCCCLXXXVIII"}, {3999, "MMMCMXCIX"}, {3999.9, "MMMCMXCIX"}, {-0.5, ""},
            {4000, Probe.VALUE}, {-1, Probe.VALUE}, {Probe.EMPTY, ""}};
        for (Object[] row : romans) {
            Probe.is(row[1], 87, row[0]);
        }
        Probe.is("00FF", 88, 255, 16, 4);
        Probe.is("FF", 88, 255, 16, Probe.LEFT_OUT);
        Probe.is("FF", 88, 255.99, 16.5, 1);
        Probe.is("0", 88, 0, 2);
        Probe.is("0", 88, -0.5, 2, 0);
        Probe.is("Z", 88, 35, 36);
        Probe.is(Probe.chars(53, '1'), 88, 9007199254740991.0, 2);
        Probe.is(Probe.NUM, 88, 9007199254740992.0, 2);
        Probe.is(Probe.NUM, 88, 9E299, 2);
        Probe.is(Probe.NUM, 88, -1, 2);
        Probe.is(Probe.NUM, 88, 1, 1);
        Probe.is(Probe.NUM, 88, 1, 37);
        Probe.is(Probe.NUM, 88, 1, 0);
        Probe.is(Probe.NUM, 88, 1, 2, -1);
        Probe.is(Probe.NUM, 88, 1, 2, 256);
        Probe.is(Probe.chars(254, '0') + "1", 88, 1, 2, 255);
        Probe.is(255, 89, "ff", 16);
        Probe.is(255, 89, "00Ff", 16);
        Probe.is(7, 89, 111, 2);
        Probe.is(0, 89, "", 16);
        Probe.is(0, 89, Probe.EMPTY, 16);
        Probe.is(Probe.NUM, 89, "", 37);
        Probe.is(Probe.NUM, 89, "1", 1);
        Probe.is(Probe.NUM, 89, "g", 16);
        Probe.is(Probe.NUM, 89, "2", 2);
        Probe.is(Probe.NUM, 89, "-1", 16);
        Probe.is(Probe.NUM, 89, "1.5", 16);
        Probe.is(Probe.NUM, 89, " 1", 16);
        Probe.is(35, 89, "z", 36);
        Probe.is(Probe.NUM, 89, "{", 36);
        Probe.is(Probe.NUM, 89, "@", 36);
        Probe.is(9007199254740991.0, 89, Probe.chars(53, '1'), 2);
        Probe.is(Probe.NUM, 89, "1" + Probe.chars(53, '0'), 2);
        Probe.is(Probe.NUM, 89, Probe.chars(255, 'Z'), 36);
        Probe.is(1, 89, Probe.chars(254, '0') + "1", 36);
    }
}
