/** Promise 9: the answers of the functions 90 to 100 and 119 to 132. */
public final class LookUpTests {
    private static final Probe.Grid TABLE =
            Probe.grid(3, 3, 1, "a", 10, 3, "b", 20, 5, "C", 30);
    private static final Probe.Grid TURNED =
            Probe.grid(3, 3, 1, 3, 5, "a", "b", "C", 10, 20, 30);

    private LookUpTests() { }

    public static void main(String[] args) {
        inTables();
        alike();
        nearly();
        lookUp();
        match();
        index();
        cells();
        address();
        transpose();
        kinds();
        Probe.finish("LookUpTests");
    }

    private static void inTables() {
        Probe.is(20, 90, 4, TABLE, 3);
        Probe.is("b", 90, 4, TABLE, 2);
        Probe.is(3, 90, 4, TABLE, 1.9);
        Probe.is(20, 90, 4, TABLE, 3, Probe.LEFT_OUT);
        Probe.is(Probe.NA, 90, 4, TABLE, 3, Probe.EMPTY);
        Probe.is(Probe.NA, 90, 4, TABLE, 3, false);
        Probe.is(20, 90, 3, TABLE, 3, 0);
        Probe.is(Probe.NA, 90, 0, TABLE, 3);
        Probe.is(Probe.NA, 90, Probe.EMPTY, TABLE, 3);
        Probe.is(Probe.NA, 90, Probe.LEFT_OUT, TABLE, 3);
        Probe.is(30, 90, 1E200, TABLE, 3);
        Probe.is(Probe.REF, 90, 0, TABLE, 4);
        Probe.is(Probe.VALUE, 90, 0, TABLE, 0);
        Probe.is(Probe.VALUE, 90, 0, TABLE, -2);
        Probe.is(Probe.VALUE, 90, 0, TABLE, Probe.LEFT_OUT);
        Probe.is(Probe.DIV0, 90, Probe.DIV0, TABLE, Probe.NA);
        Probe.is(Probe.NAME, 90, 0, TABLE, Probe.NAME, Probe.NULL);
        Probe.is(Probe.NULL, 90, 0, TABLE, 0, Probe.NULL);
        Probe.is(Probe.VALUE, 90, 0, TABLE, 9, "yes");
        Probe.is(Probe.NA, 90, 1, Probe.LEFT_OUT, 1);
        Probe.is(Probe.REF, 90, 1, Probe.LEFT_OUT, 2);
        Probe.is(Probe.EMPTY, 90, 1, Probe.grid(1, 2, 1, Probe.EMPTY), 2);
        Probe.is(Probe.NUM, 90, 1, Probe.grid(2, 2, 1, Probe.NUM, 2, 3), 2);
        Probe.is(Probe.NUM, 90, Probe.grid(1, 2, 1, 2), Probe.grid(2, 2, 1, Probe.NUM, 2, 3), 2);
        Probe.is(20, 91, 4, TURNED, 3);
        Probe.is("b", 91, 4, TURNED, 2);
        Probe.is(Probe.NA, 91, 4, TURNED, 3, 0);
        Probe.is(30, 91, 5, TURNED, 3, 0);
        Probe.is(Probe.REF, 91, 4, TURNED, 4);
        Probe.is(Probe.VALUE, 91, 4, TURNED, 0);
        Probe.is(Probe.REF, 91, 1, Probe.grid(1, 3, 1, 2, 3), 2);
        Probe.is(Probe.REF, 90, 1, Probe.grid(3, 1, 1, 2, 3), 2);
        Probe.is(6, 91, 3, Probe.grid(2, 3, 1, 2, 3, 4, 5, 6), 2);
        Probe.is(5, 90, 3, Probe.grid(3, 2, 1, 2, 3, 5, 4, 6), 2, 0);
    }

    private static void alike() {
        Probe.is(3, 93, "c", Probe.grid(3, 1, "a", "b", "C"), 0);
        Probe.is(2, 93, 1, Probe.grid(1, 4, true, 1, "1", 1), 0);
        Probe.is(1, 93, true, Probe.grid(1, 4, true, 1, "1", 1), 0);
        Probe.is(3, 93, "1", Probe.grid(1, 4, true, 1, "1", 1), 0);
        Probe.is(Probe.NA, 93, "TRUE", Probe.grid(1, 1, true), 0);
        Probe.is(2, 93, Probe.EMPTY, Probe.grid(1, 2, Probe.EMPTY, 0), 0);
        Probe.is(Probe.NA, 93, Probe.EMPTY, Probe.blank(1, 2), 0);
        Probe.is(Probe.NA, 93, "", Probe.blank(1, 2), 0);
        Probe.is(2, 93, "", Probe.grid(1, 2, Probe.EMPTY, ""), 0);
        Probe.is(3, 93, 2, Probe.grid(1, 3, Probe.NA, Probe.DIV0, 2), 0);
        Probe.is(Probe.DIV0, 93, Probe.DIV0, Probe.grid(1, 3, Probe.NA, Probe.DIV0, 2), 0);
        Probe.is(2, 93, "?", Probe.grid(2, 1, "ab", "b"), 0);
        Probe.is(2, 93, "a*", Probe.grid(3, 1, "ba", "A", "ab"), 0);
        Probe.is(2, 93, "*a", Probe.grid(3, 1, "ab", "BA", "a"), 0);
        Probe.is(2, 93, "~?", Probe.grid(3, 1, "a", "?", "~?"), 0);
        Probe.is(2, 93, "~*x", Probe.grid(3, 1, "aX", "*X", "~*x"), 0);
        Probe.is(2, 93, "~~", Probe.grid(3, 1, "~", "~~", "~~~"), 0);
        Probe.is(1, 93, "~~*", Probe.grid(3, 1, "~", "~~", "~~~"), 0);
        Probe.is(1, 93, "*", Probe.grid(2, 1, "", "a"), 0);
        Probe.is(3, 93, "*", Probe.grid(3, 1, 1, Probe.EMPTY, "a"), 0);
        Probe.is(Probe.NA, 93, "?", Probe.grid(2, 1, "", "ab"), 0);
        Probe.is(1, 93, "a?c*e", Probe.grid(2, 1, "ABCDE", "abce"), 0);
        Probe.is(2, 93, "\u00E4", Probe.grid(2, 1, "\u00C4", "\u00E4"), 0);
        Probe.is(1, 93, -0.0, Probe.grid(1, 1, 0), 0);
    }

    private static void nearly() {
        Probe.is(4, 93, 4, Probe.grid(1, 5, 5, 4, 3, 1, 9));
        Probe.is(4, 93, 4, Probe.grid(1, 5, 5, 4, 3, 1, 9), Probe.LEFT_OUT);
        Probe.is(2, 93, 4, Probe.grid(1, 5, 5, 4, 3, 1, 9), Probe.EMPTY);
        Probe.is(5, 93, 4, Probe.grid(1, 5, 5, 4, 3, 1, 9), -1);
        Probe.is(2, 93, 4, Probe.grid(1, 3, 5, 4, 3), -1.5);
        Probe.is(2, 93, 4, Probe.grid(1, 3, 5, 4, 3), -0.5);
        Probe.is(Probe.NA, 93, 4, Probe.grid(1, 2, 1, 2), -1);
        Probe.is(2, 93, 4, Probe.grid(1, 4, "a", 2, true, Probe.NA), 2);
        Probe.is(3, 93, "b", Probe.grid(1, 4, "a", "C", "B", 1));
        Probe.is(2, 93, "ab", Probe.grid(1, 3, "abc", "a", "b"));
        Probe.is(1, 93, "abc", Probe.grid(1, 2, "ab", "abcd"));
        // Small letters are taken as great ones: _ (95) stands above Z (90).
        Probe.is(1, 93, "z", Probe.grid(1, 2, "Z", "_"));
        Probe.is(2, 93, "_", Probe.grid(1, 2, "a", "z"));
        Probe.is(3, 93, "\u00FF", Probe.grid(1, 3, "a", "z", "\u00FE"));
        Probe.is(2, 93, "?", Probe.grid(1, 3, "", "?", "a"));
        Probe.is(1, 93, "b*", Probe.grid(1, 2, "b", "bc"));
        Probe.is(2, 93, "b*", Probe.grid(1, 2, "b", "bc"), -1);
        Probe.is(1, 93, true, Probe.grid(1, 3, true, 0, "a"));
        Probe.is(1, 93, false, Probe.grid(1, 2, false, true));
        Probe.is(2, 93, false, Probe.grid(1, 2, false, true), -1);
        Probe.is(Probe.NA, 93, false, Probe.grid(1, 2, true, 0));
        Probe.is(2, 93, Probe.EMPTY, Probe.grid(1, 4, Probe.EMPTY, -1, 1, Probe.EMPTY));
    }

    private static void lookUp() {
        Probe.Grid row = Probe.grid(1, 3, 1, 2, 3);
        Probe.is("b", 92, 2.5, row, Probe.grid(3, 1, "a", "b", "c"));
        Probe.is("c", 92, 2.5, row, Probe.grid(2, 2, "a", "c", "b", "d"));
        Probe.is(Probe.NA, 92, 3, row, Probe.grid(1, 2, "a", "b"));
        Probe.is("b", 92, 2, row, Probe.grid(1, 2, "a", "b"));
        Probe.is(Probe.NA, 92, 0.5, row, Probe.grid(1, 3, "a", "b", "c"));
        Probe.is(4, 92, 4, Probe.grid(2, 2, 1, 2, 3, 4));
        Probe.is("d", 92, 4, Probe.grid(2, 2, 1, 2, 3, 4), Probe.grid(1, 4, "a", "b", "c", "d"));
        Probe.is(2, 92, 2, row);
        Probe.is(2, 92, 2, row, Probe.LEFT_OUT);
        Probe.is(Probe.EMPTY, 92, 1, row, Probe.EMPTY);
        Probe.is(Probe.NA, 92, 2, row, Probe.EMPTY);
        Probe.is(5, 92, 2, Probe.grid(2, 3, 1, 2, 3, 4, 5, 6));
        Probe.is(4, 92, 3, Probe.grid(3, 2, 1, 2, 3, 4, 5, 6));
        Probe.is(4, 92, 3, Probe.grid(2, 2, 1, 2, 3, 4));
        Probe.is(2, 92, 2, Probe.grid(2, 2, 1, 2, 3, 4));
        Probe.is(Probe.NA, 92, 1, Probe.LEFT_OUT);
        Probe.is(Probe.REF, 92, Probe.REF, row, Probe.NA);
        Probe.is(Probe.DIV0, 92, 1, row, Probe.grid(1, 2, Probe.DIV0, Probe.NA));
        Probe.is("x", 92, "b?", Probe.grid(1, 2, "b", "bc"), Probe.grid(1, 2, "x", "y"));
    }

    private static void match() {
        Probe.is(Probe.NA, 93, 1, Probe.grid(2, 2, 1, 1, 1, 1), 0);
        Probe.is(Probe.NULL, 93, Probe.NULL, Probe.grid(2, 2, 1, 1, 1, 1), 0);
        Probe.is(Probe.NAME, 93, 1, Probe.grid(2, 2, 1, 1, 1, 1), Probe.NAME);
        Probe.is(1, 93, 1, Probe.grid(2, 1, 1, 1), 0);
        Probe.is(2, 93, 1, Probe.grid(2, 1, 1, 1), 1);
        Probe.is(2, 93, 1, Probe.grid(1, 2, 1, 1), -1);
        Probe.is(1, 93, 1, 1);
        Probe.is(Probe.NA, 93, 1, Probe.LEFT_OUT);
        Probe.is(Probe.VALUE, 93, 1, 1, "x");
        Probe.is(Probe.NUM, 93, 1, 1, 1E10);
        Probe.is(1, 93, 1, 1, 0.9);
    }

    private static void index() {
        Probe.is("b", 94, TABLE, 2, 2);
        Probe.is(3, 94, TABLE, 2);
        Probe.is(3, 94, TABLE, 2.9, 1.9);
        Probe.is(Probe.grid(1, 3, 3, "b", 20), 94, TABLE, 2, 0);
        Probe.is(Probe.grid(1, 3, 3, "b", 20), 94, TABLE, 2, Probe.LEFT_OUT);
        Probe.is(Probe.grid(3, 1, 10, 20, 30), 94, TABLE, 0, 3);
        Probe.is(Probe.grid(3, 1, 1, 3, 5), 94, TABLE, 0);
        Probe.is(TABLE, 94, TABLE, 0, 0);
        Probe.is(TABLE, 94, TABLE, Probe.LEFT_OUT, Probe.EMPTY);
        Probe.is(Probe.REF, 94, TABLE, 4, 1);
        Probe.is(Probe.REF, 94, TABLE, 1, 4);
        Probe.is(Probe.REF, 94, TABLE, 4);
        Probe.is(Probe.VALUE, 94, TABLE, -1, 9);
        Probe.is(Probe.VALUE, 94, TABLE, 9, -1);
        Probe.is(Probe.VALUE, 94, TABLE, -1);
        Probe.is(Probe.DIV0, 94, TABLE, -1, Probe.DIV0);
        Probe.is(Probe.VALUE, 94, TABLE, "x", Probe.DIV0);
        Probe.Grid row = Probe.grid(1, 3, "a", "b", "c");
        Probe.is("c", 94, row, 3);
        Probe.is(row, 94, row, 0);
        Probe.is(Probe.REF, 94, row, 4);
        Probe.is(Probe.VALUE, 94, row, -1);
        Probe.is("c", 94, row, 1, 3);
        Probe.is("c", 94, row, 0, 3);
        Probe.is(row, 94, row, 1, Probe.LEFT_OUT);
        Probe.is(Probe.REF, 94, row, 2, Probe.LEFT_OUT);
        Probe.is(Probe.REF, 94, row, 2, 1);
        Probe.Grid column = Probe.grid(3, 1, "a", Probe.NA, Probe.EMPTY);
        Probe.is("a", 94, column, 1);
        Probe.is(Probe.NA, 94, column, 2);
        Probe.is(Probe.EMPTY, 94, column, 3);
        Probe.is(column, 94, column, 0);
        Probe.is(Probe.REF, 94, column, 1, 2);
        Probe.is("x", 94, "x", 1);
        Probe.is("x", 94, "x", 0);
        Probe.is(Probe.REF, 94, "x", 2);
        Probe.is(Probe.EMPTY, 94, Probe.LEFT_OUT, 1, 1);
        Probe.is(Probe.NUM, 94, TABLE, 1E10, -1);
    }

    private static void cells() {
        // Probe's HOME is row 7, column 5.
        Probe.is(7, 95);
        Probe.is(5, 96);
        Probe.is(7, 95, Probe.LEFT_OUT);
        Probe.is(5, 96, Probe.LEFT_OUT);
        Probe.is(12, 95, Probe.ranged(12, 34, TABLE));
        Probe.is(34, 96, Probe.ranged(12, 34, TABLE));
        Probe.is(12, 95, Probe.ranged(12, 34, Probe.grid(1, 1, Probe.NA)));
        Probe.is(Probe.VALUE, 95, 1);
        Probe.is(Probe.VALUE, 96, TABLE);
        Probe.is(Probe.VALUE, 95, Probe.NA);
        Probe.is(Probe.VALUE, 96, Probe.EMPTY);
        Probe.is(3, 97, Probe.blank(3, 2));
        Probe.is(2, 98, Probe.blank(3, 2));
        Probe.is(1, 97, Probe.NA);
        Probe.is(1, 98, Probe.LEFT_OUT);
    }

    private static void address() {
        Probe.is("$B$3", 99, 3, 2);
        Probe.is("$B$3", 99, 3, 2, 1);
        Probe.is("B$3", 99, 3, 2, 2);
        Probe.is("$B3", 99, 3, 2, 3);
        Probe.is("B3", 99, 3, 2, 4);
        Probe.is("R3C2", 99, 3, 2, 1, false);
        Probe.is("R3C[2]", 99, 3, 2, 2, 0);
        Probe.is("R[3]C2", 99, 3, 2, 3, Probe.EMPTY);
        Probe.is("R[3]C[2]", 99, 3, 2, 4, "0");
        Probe.is("$B$3", 99, 3, 2, Probe.LEFT_OUT, Probe.LEFT_OUT, Probe.LEFT_OUT);
        Probe.is("!$B$3", 99, 3, 2, 1, 1, Probe.EMPTY);
        Probe.is("!$B$3", 99, 3, 2, 1, 1, "");
        Probe.is("Sheet 1!R3C2", 99, 3, 2, 1, false, "Sheet 1");
        Probe.is("1.5!$B$3", 99, 3, 2, 1, 1, 1.5);
        Object[][] columns = {{1, "A"}, {26, "Z"}, {27, "AA"}, {52, "AZ"}, {53, "BA"},
            {702, "ZZ"}, {703, "AAA"}, {728, "AAZ"}, {729, "ABA"}, {1378, "AZZ"},
            {1379, "BAA"}, {16224, "WYZ"}, {16225, "WZA"}, {16384, "XFD"}};
        for (Object[] row : columns) {
            Probe.is(row[1] + "1048576", 99, 1048576, row[0], 4);
        }
        Probe.is(Probe.VALUE, 99, 0, 1);
        Probe.is(Probe.VALUE, 99, Probe.LEFT_OUT, 1);
        Probe.is(Probe.VALUE, 99, 1048577, 1);
        Probe.is(Probe.VALUE, 99, 1, 0);
        Probe.is(Probe.VALUE, 99, 1, 16385);
        Probe.is(Probe.VALUE, 99, 1, 1, 0);
        Probe.is(Probe.VALUE, 99, 1, 1, Probe.EMPTY);
        Probe.is(Probe.VALUE, 99, 1, 1, 5);
        Probe.is(Probe.NA, 99, 0, 1, 1, 1, Probe.NA);
        Probe.is(Probe.VALUE, 99, 1, 1, 1, "x", Probe.NA);
        Probe.is(Probe.chars(250, 's') + "!$A$1", 99, 1, 1, 1, 1, Probe.chars(250, 's'));
        Probe.is(Probe.VALUE, 99, 1, 1, 1, 1, Probe.chars(251, 's'));
    }

    private static void transpose() {
        Probe.is(TURNED, 100, TABLE);
        Probe.is(Probe.grid(2, 1, Probe.NA, Probe.EMPTY), 100, Probe.grid(1, 2, Probe.NA, Probe.EMPTY));
        Probe.is(Probe.grid(2, 3, 1, 3, 5, 2, 4, 6), 100, Probe.grid(3, 2, 1, 2, 3, 4, 5, 6));
        Probe.is(Probe.NA, 100, Probe.NA);
        Probe.is(Probe.EMPTY, 100, Probe.LEFT_OUT);
        Probe.is("x", 100, "x");
    }

    private static void kinds() {
        Object[] values = {Probe.EMPTY, 1.5, "a", "", true, Probe.VALUE, Probe.NA, Probe.LEFT_OUT};
        String[] truths = {
            "10000001", "01000000", "00110000", "11001111", "00001000", "00000110", "00000100",
            "00000010"
        };
        for (int k = 0; k < values.length; k++) {
            for (int function = 119; function <= 126; function++) {
                Probe.is(truths[function - 119].charAt(k) == '1', function, values[k]);
                Probe.is(truths[function - 119].charAt(k) == '1', function,
                        values[k] == Probe.LEFT_OUT ? values[k] : Probe.grid(1, 2, values[k], 3));
            }
        }
        Probe.is(true, 127, 0);
        Probe.is(true, 127, Probe.LEFT_OUT);
        Probe.is(false, 128, Probe.LEFT_OUT);
        Probe.is(true, 127, -4.9);
        Probe.is(false, 127, -3);
        Probe.is(true, 128, -3);
        Probe.is(true, 128, true);
        Probe.is(Probe.VALUE, 127, "x");
        Probe.is(Probe.NA, 128, Probe.NA);
        Probe.is(Probe.NA, 129);
        Probe.is(1, 130, 5);
        Probe.is(1, 130, Probe.EMPTY);
        Probe.is(1, 130, Probe.LEFT_OUT);
        Probe.is(2, 130, "");
        Probe.is(4, 130, false);
        Probe.is(16, 130, Probe.NA);
        Probe.is(64, 130, Probe.blank(1, 2));
        Probe.is(64, 130, Probe.grid(2, 1, Probe.NA, 1));
        for (int error = 1; error <= 8; error++) {
            Probe.is(error, 131, new Probe.Err(error));
        }
        Probe.is(Probe.NA, 131, 5);
        Probe.is(Probe.NA, 131, Probe.EMPTY);
        Probe.is(Probe.NA, 131, Probe.LEFT_OUT);
        Probe.is(2, 131, Probe.grid(1, 2, Probe.DIV0, 1));
        Probe.is(3.141592653589793, 132);
    }
}
