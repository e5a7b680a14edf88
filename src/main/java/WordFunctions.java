/**
 * Functions of a workbook's formulas for texts, look-ups, dates and what values are: given their
 * arguments, each a grid of values, they tell a value, or a part of a grid.
 */
public final class WordFunctions {

    public static final int NONE = -1;

    private static final int EMPTY = 0;
    private static final int NUMBER = 1;
    private static final int TEXT = 2;
    private static final int TRUTH = 3;
    private static final int ERROR = 4;
    private static final int GRID = 64;

    private static final int VALUE_ERROR = 3;
    private static final int REF_ERROR = 4;
    private static final int NUM_ERROR = 6;
    private static final int NA_ERROR = 7;
    private static final int LAST_ERROR = 8;

    private static final int MOST_ARGUMENTS = 30;
    private static final int MOST_VALUES = 512;
    private static final int MOST_CHARACTERS = 255;
    private static final int TAPE_BYTES = 260;
    private static final int FEED_BYTES = 20;
    private static final int LAST_ROW = 1048576;
    private static final int LAST_COLUMN = 16384;

    private static final int INDEX = 94;
    private static final int TRANSPOSE = 100;

    // The least and the most arguments of the functions from 66 on, ten to a line; 1 and 0, which
    // no number meets, where there is no function.
    private static final int FIRST_FUNCTION = 66;
    private static final int[] LEAST = {
        1, 1, 1, 3, 2, 2, 4, 3, 2, 1,
        1, 1, 1, 1, 3, 2, 1, 1, 1, 1,
        1, 1, 2, 2, 3, 3, 2, 2, 2, 0,
        0, 1, 1, 2, 1, 3, 3, 1, 1, 1,
        1, 1, 1, 1, 1, 2, 2, 2, 3, 2,
        2, 1, 1, 1, 1, 1, 1, 1, 1, 1,
        1, 1, 1, 0, 1, 1, 0
    };
    private static final int[] MOST = {
        1, 2, 2, 3, 3, 3, 4, 4, 2, 1,
        1, 1, 1, 30, 30, 2, 1, 1, 0, 0,
        0, 1, 3, 2, 4, 4, 3, 3, 3, 1,
        1, 1, 1, 5, 1, 3, 3, 1, 1, 1,
        1, 1, 1, 2, 2, 2, 2, 2, 3, 3,
        3, 0, 0, 1, 1, 1, 1, 1, 1, 1,
        1, 1, 1, 0, 1, 1, 0
    };

    private final char[] tape = new char[TAPE_BYTES];
    private int taped;
    private String cut = "";
    private final Arguments given;
    private final Answer answer;
    private final Texts texts;
    private final LookUps lookUps;
    private final Dates dates;
    private final Kinds kinds;

    public WordFunctions() {
        Pattern pattern = new Pattern();
        given = new Arguments();
        answer = new Answer();
        texts = new Texts(given, pattern);
        lookUps = new LookUps(given, pattern);
        dates = new Dates(given);
        kinds = new Kinds(given);
    }

    public boolean feed(int a, int b, int c, int d, int e) {
        if (taped + FEED_BYTES > tape.length) {
            return false;
        }
        lay(a);
        lay(b);
        lay(c);
        lay(d);
        lay(e);
        return true;
    }

    private void lay(int word) {
        for (int shift = 24; shift >= 0; shift -= 8) {
            if (taped < tape.length) {
                tape[taped] = (char) ((word >>> shift) & 255);
                taped++;
            }
        }
    }

    public boolean end(int n) {
        if (n < 0 || n > taped || n > MOST_CHARACTERS) {
            return false;
        }
        StringBuilder made = new StringBuilder();
        for (int k = 0; k < n && k < tape.length; k++) {
            made.append(tape[k]);
        }
        cut = made.toString();
        taped = 0;
        return true;
    }

    public boolean home(int row, int column) {
        if (!isCell(row, column)) {
            return false;
        }
        given.homeRow = row;
        given.homeColumn = column;
        return true;
    }

    public void argument(int rows, int columns)
            throws IllegalArgumentException, IllegalStateException {
        boolean leftOut = rows == 0 && columns == 0;
        if (!leftOut && (rows < 1 || columns < 1)) {
            throw new IllegalArgumentException("a grid has one row and one column at least");
        }
        if (!given.add(rows, columns)) {
            throw new IllegalStateException("too many arguments or values");
        }
    }

    public boolean range(int row, int column) {
        return given.stand(row, column);
    }

    public boolean put(int i, int kind, double v) {
        switch (kind) {
            case EMPTY:
                return given.set(i, Value.ofEmpty());
            case NUMBER:
                double size = v < 0.0 ? -v : v;
                return size < 1E300 && given.set(i, Value.ofNumber(v));
            case TRUTH:
                return given.set(i, Value.ofTruth(v != 0.0));
            case ERROR:
                return given.set(i, Value.ofError(errorNumber(v)));
            default:
                return false;
        }
    }

    private static int errorNumber(double v) {
        for (int error = 1; error <= LAST_ERROR; error++) {
            if (v == error) {
                return error;
            }
        }
        return VALUE_ERROR;
    }

    public boolean putText(int i) {
        return given.set(i, Value.ofText(cut));
    }

    public int call(int function) throws IllegalArgumentException {
        if (!isFor(function, given.count)) {
            throw new IllegalArgumentException("no such function for so many arguments");
        }
        given.fault = 0;
        if (function == INDEX) {
            lookUps.index(answer);
        } else if (function == TRANSPOSE) {
            answer.transpose(given);
        } else {
            Value made;
            if (function < 90) {
                made = texts.of(function);
            } else if (function < 101) {
                made = lookUps.of(function);
            } else if (function < 119) {
                made = dates.of(function);
            } else {
                made = kinds.of(function);
            }
            answer.become(given.fault == 0 ? made : Value.ofError(given.fault));
        }
        given.clear();
        return answer.isOne() ? answer.told.kind : GRID;
    }

    private static boolean isFor(int function, int arguments) {
        if (function < FIRST_FUNCTION || function - FIRST_FUNCTION >= LEAST.length
                || function - FIRST_FUNCTION >= MOST.length) {
            return false;
        }
        int which = function - FIRST_FUNCTION;
        return arguments >= LEAST[which] && arguments <= MOST[which];
    }

    public int size(boolean columns) {
        return columns ? answer.columns : answer.rows;
    }

    public int look(int row, int column) {
        return answer.tell(row, column) ? answer.told.kind : NONE;
    }

    public double value() {
        Value told = answer.told;
        return told.kind == TEXT ? told.text.length() : told.number;
    }

    public int letter(int k) {
        String text = answer.told.text;
        return k >= 0 && k < text.length() ? text.charAt(k) : NONE;
    }

    private static boolean isCell(int row, int column) {
        return row >= 1 && row <= LAST_ROW && column >= 1 && column <= LAST_COLUMN;
    }

    private static boolean isLetter(char c) {
        return (c >= 'A' && c <= 'Z') || (c >= 'a' && c <= 'z');
    }

    private static char great(char c) {
        return c >= 'a' && c <= 'z' ? (char) (c - 'a' + 'A') : c;
    }

    private static char small(char c) {
        return c >= 'A' && c <= 'Z' ? (char) (c - 'A' + 'a') : c;
    }

    private static Value textOrTooLong(StringBuilder made) {
        return made.length() > MOST_CHARACTERS
                ? Value.ofError(VALUE_ERROR) : Value.ofText(made.toString());
    }

    /** A value; it never changes, so that grids and the answer may share it. */
    private static final class Value {
        final int kind;
        final double number;
        final String text;

        Value(int kind, double number, String text) {
            this.kind = kind;
            this.number = number;
            this.text = text;
        }

        static Value ofEmpty() {
            return new Value(EMPTY, 0.0, "");
        }

        static Value ofNumber(double number) {
            return new Value(NUMBER, number, "");
        }

        static Value ofText(String text) {
            return new Value(TEXT, 0.0, text);
        }

        static Value ofTruth(boolean holds) {
            return new Value(TRUTH, holds ? 1.0 : 0.0, "");
        }

        static Value ofError(int error) {
            return new Value(ERROR, error, "");
        }
    }

    /** Where an argument's values are; no rows and no columns if it is left out. */
    private static final class Grid {
        int rows;
        int columns;
        int first;
        boolean isRange;
        int sheetRow;
        int sheetColumn;
    }

    /**
     * The arguments, and what functions ask of them. What a question has no answer for becomes the
     * fault, if there is none yet: so the first one is the answer, if a function asks all its
     * arguments in their order before it answers anything.
     */
    private static final class Arguments {
        private final Value empty = Value.ofEmpty();
        private final Grid absent = new Grid();
        private final Value[] values = new Value[MOST_VALUES];
        private final Grid[] grids = new Grid[MOST_ARGUMENTS];
        private int used;
        int count;
        int fault;
        int homeRow = 1;
        int homeColumn = 1;

        Arguments() {
            for (int k = 0; k < values.length; k++) {
                values[k] = empty;
            }
            for (int k = 0; k < grids.length; k++) {
                grids[k] = new Grid();
            }
        }

        boolean add(int rows, int columns) {
            long more = (long) rows * columns;
            if (count >= grids.length || more < 0 || used + more > values.length) {
                return false;
            }
            Grid grid = grids[count];
            grid.rows = rows;
            grid.columns = columns;
            grid.first = used;
            grid.isRange = false;
            for (int k = 0; k < more; k++) {
                values[used] = empty;
                used++;
            }
            count++;
            return true;
        }

        void clear() {
            count = 0;
            used = 0;
        }

        boolean stand(int row, int column) {
            Grid grid = grid(count - 1);
            if (grid.rows == 0 || !isCell(row, column)
                    || !isCell(row + grid.rows - 1, column + grid.columns - 1)) {
                return false;
            }
            grid.isRange = true;
            grid.sheetRow = row;
            grid.sheetColumn = column;
            return true;
        }

        boolean set(int k, Value value) {
            Grid grid = grid(count - 1);
            if (k < 0 || k >= grid.rows * grid.columns || grid.first + k >= values.length) {
                return false;
            }
            values[grid.first + k] = value;
            return true;
        }

        Grid grid(int i) {
            return i >= 0 && i < count && i < grids.length ? grids[i] : absent;
        }

        boolean isThere(int i) {
            return i < count;
        }

        boolean isLeftOut(int i) {
            return grid(i).rows == 0;
        }

        int rows(int i) {
            return Math.max(1, grid(i).rows);
        }

        int columns(int i) {
            return Math.max(1, grid(i).columns);
        }

        int many(int i) {
            return rows(i) * columns(i);
        }

        /** An argument's k-th value, row by row, from 0. */
        Value nth(int i, int k) {
            Grid grid = grid(i);
            if (k < 0 || k >= grid.rows * grid.columns || grid.first + k >= values.length) {
                return empty;
            }
            return values[grid.first + k];
        }

        Value at(int i, int row, int column) {
            return nth(i, row * columns(i) + column);
        }

        void fail(int error) {
            if (fault == 0) {
                fault = error;
            }
        }

        double number(int i) {
            Value value = nth(i, 0);
            if (value.kind == ERROR) {
                fail((int) value.number);
                return 0.0;
            }
            return value.kind == TEXT ? said(value.text) : value.number;
        }

        private double said(String text) {
            int start = !text.isEmpty() && text.charAt(0) == '-' ? 1 : 0;
            int point = text.indexOf('.');
            int before = (point < 0 ? text.length() : point) - start;
            int behind = point < 0 ? 0 : text.length() - point - 1;
            boolean well = before >= 1 && before <= 9 && behind <= 3 && (point < 0 || behind >= 1);
            long digits = 0;
            for (int k = start; k < text.length() && well; k++) {
                char c = text.charAt(k);
                if (c >= '0' && c <= '9') {
                    digits = digits * 10 + (c - '0');
                } else {
                    well = k == point;
                }
            }
            if (!well) {
                fail(VALUE_ERROR);
                return 0.0;
            }
            double parts = behind == 0 ? 1.0 : behind == 1 ? 10.0 : behind == 2 ? 100.0 : 1000.0;
            return (start == 1 ? -digits : digits) / parts;
        }

        int whole(int i) {
            double number = number(i);
            double size = number < 0.0 ? -number : number;
            if (size >= 2147483648.0) {
                fail(NUM_ERROR);
                return 0;
            }
            return (int) number;
        }

        int wholeOr(int i, int otherwise) {
            return isLeftOut(i) ? otherwise : whole(i);
        }

        boolean truth(int i) {
            return number(i) != 0.0;
        }

        boolean truthOr(int i, boolean otherwise) {
            return isLeftOut(i) ? otherwise : truth(i);
        }

        int day(int i) {
            double number = number(i);
            if (!Calendar.hasDay(number)) {
                fail(NUM_ERROR);
                return 0;
            }
            return (int) number;
        }

        String text(int i) {
            return textOf(nth(i, 0));
        }

        String textOf(Value value) {
            switch (value.kind) {
                case NUMBER:
                    return written(value.number);
                case TRUTH:
                    return value.number != 0.0 ? "TRUE" : "FALSE";
                case ERROR:
                    fail((int) value.number);
                    return "";
                default:
                    return value.text;
            }
        }

        private String written(double number) {
            double size = number < 0.0 ? -number : number;
            if (size >= 1E12) {
                fail(VALUE_ERROR);
                return "";
            }
            long rest = (long) (size * 1000.0 + 0.5);
            boolean below = number < 0.0 && rest != 0;
            int behind = 3;
            while (behind > 0 && rest % 10 == 0) {
                rest /= 10;
                behind--;
            }
            StringBuilder made = new StringBuilder();
            for (int k = 0; k < MOST_CHARACTERS && (k <= behind || rest > 0); k++) {
                if (k == behind && behind > 0) {
                    made.append('.');
                }
                made.append((char) ('0' + (int) (rest % 10)));
                rest /= 10;
            }
            if (below) {
                made.append('-');
            }
            return made.reverse().toString();
        }
    }

    /** The answer, a grid, and the value of it that is told. */
    private static final class Answer {
        private final Value[] values = new Value[MOST_VALUES];
        int rows = 1;
        int columns = 1;
        Value told;

        Answer() {
            told = Value.ofEmpty();
            for (int k = 0; k < values.length; k++) {
                values[k] = told;
            }
        }

        boolean isOne() {
            return rows == 1 && columns == 1;
        }

        void become(Value value) {
            rows = 1;
            columns = 1;
            values[0] = value;
            told = value;
        }

        void becomePart(Arguments given, int top, int left, int high, int wide) {
            rows = high;
            columns = wide;
            for (int row = 0; row < high; row++) {
                for (int column = 0; column < wide; column++) {
                    keep(row, column, given.at(0, top + row, left + column));
                }
            }
            told = values[0];
        }

        void transpose(Arguments given) {
            rows = given.columns(0);
            columns = given.rows(0);
            for (int row = 0; row < rows; row++) {
                for (int column = 0; column < columns; column++) {
                    keep(row, column, given.at(0, column, row));
                }
            }
            told = values[0];
        }

        private void keep(int row, int column, Value value) {
            int place = row * columns + column;
            if (place >= 0 && place < values.length) {
                values[place] = value;
            }
        }

        boolean tell(int row, int column) {
            if (row < 0 || row >= rows || column < 0 || column >= columns
                    || row * columns + column >= values.length) {
                return false;
            }
            told = values[row * columns + column];
            return true;
        }
    }

    /** A text read as a pattern, and the texts that it matches. */
    private static final class Pattern {
        private static final int ANY_ONE = 256;
        private static final int ANY_NUMBER = 257;

        private final int[] signs = new int[MOST_CHARACTERS];
        private int count;
        // Whether the signs gone through, the last one first, match the text's characters from
        // each place on: a row that is made over sign by sign takes no more than texts times signs.
        private final boolean[] matched = new boolean[MOST_CHARACTERS + 1];

        static boolean isSpecial(char c) {
            return c == '?' || c == '*' || c == '~';
        }

        void read(String text) {
            count = 0;
            for (int at = 0; at < text.length() && count < signs.length; at++) {
                char c = text.charAt(at);
                if (c == '~' && at + 1 < text.length() && isSpecial(text.charAt(at + 1))) {
                    at++;
                    signs[count] = text.charAt(at);
                } else if (c == '?') {
                    signs[count] = ANY_ONE;
                } else if (c == '*') {
                    signs[count] = ANY_NUMBER;
                } else {
                    signs[count] = great(c);
                }
                count++;
            }
        }

        /** Whether it matches the text as a whole, or, if not wanted as a whole, its beginning. */
        boolean matches(String text, boolean whole) {
            int length = Math.min(text.length(), MOST_CHARACTERS);
            for (int at = 0; at <= length; at++) {
                matched[at] = !whole || at == length;
            }
            for (int k = count - 1; k >= 0; k--) {
                int sign = signs[k];
                if (sign == ANY_NUMBER) {
                    for (int at = length - 1; at >= 0; at--) {
                        matched[at] = matched[at] || matched[at + 1];
                    }
                } else {
                    for (int at = 0; at < length; at++) {
                        matched[at] = matched[at + 1]
                                && (sign == ANY_ONE || sign == great(text.charAt(at)));
                    }
                    matched[length] = false;
                }
            }
            return matched[0];
        }

        /** The first place, not before start (0 or above), from which on it matches; or NONE. */
        int placeIn(String text, int start) {
            matches(text, false);
            for (int at = start; at <= text.length() && at < matched.length; at++) {
                if (matched[at]) {
                    return at;
                }
            }
            return NONE;
        }
    }

    /** The functions 66 to 89. */
    private static final class Texts {
        private static final long LAST_DECIMAL = 9007199254740991L;
        private static final int[] ROMAN_VALUES = {
            1000, 900, 500, 400, 100, 90, 50, 40, 10, 9, 5, 4, 1
        };
        // Two characters for each of the values; the second may be a blank.
        private static final String ROMAN_LETTERS = "M CMD CDC XCL XLX IXV IVI ";

        private final Arguments given;
        private final Pattern pattern;

        Texts(Arguments given, Pattern pattern) {
            this.given = given;
            this.pattern = pattern;
        }

        Value of(int function) {
            switch (function) {
                case 66: return Value.ofNumber(given.text(0).length());
                case 67: return side(false);
                case 68: return side(true);
                case 69: return middle();
                case 70: return find();
                case 71: return search();
                case 72: return replace();
                case 73: return substitute();
                case 74: return repeat();
                case 75: return sized(true);
                case 76: return sized(false);
                case 77: return proper();
                case 78: return trim();
                case 79: return concatenate();
                case 80: return join();
                case 81: return exact();
                case 82: return character();
                case 83: return code();
                case 87: return roman();
                case 88: return base();
                default: return decimal();
            }
        }

        private Value side(boolean right) {
            String text = given.text(0);
            int n = given.wholeOr(1, 1);
            if (n < 0) {
                return Value.ofError(VALUE_ERROR);
            }
            int many = Math.min(n, text.length());
            int start = right ? text.length() - many : 0;
            return Value.ofText(text.substring(start, start + many));
        }

        private Value middle() {
            String text = given.text(0);
            int s = given.whole(1);
            int n = given.whole(2);
            if (s < 1 || n < 0) {
                return Value.ofError(VALUE_ERROR);
            }
            int start = Math.min(s - 1, text.length());
            int many = Math.min(n, text.length() - start);
            return Value.ofText(text.substring(start, start + many));
        }

        private static boolean isAt(String part, String text, int place) {
            if (place < 0 || place > text.length() - part.length()) {
                return false;
            }
            for (int k = 0; k < part.length(); k++) {
                if (text.charAt(place + k) != part.charAt(k)) {
                    return false;
                }
            }
            return true;
        }

        private Value find() {
            String part = given.text(0);
            String text = given.text(1);
            int s = given.wholeOr(2, 1);
            if (s >= 1) {
                for (int at = s - 1; at <= text.length() - part.length(); at++) {
                    if (isAt(part, text, at)) {
                        return Value.ofNumber(at + 1);
                    }
                }
            }
            return Value.ofError(VALUE_ERROR);
        }

        private Value search() {
            String part = given.text(0);
            String text = given.text(1);
            int s = given.wholeOr(2, 1);
            if (s < 1 || s > text.length() + 1) {
                return Value.ofError(VALUE_ERROR);
            }
            pattern.read(part);
            int place = pattern.placeIn(text, s - 1);
            return place == NONE ? Value.ofError(VALUE_ERROR) : Value.ofNumber(place + 1);
        }

        private Value replace() {
            String text = given.text(0);
            int s = given.whole(1);
            int n = given.whole(2);
            String instead = given.text(3);
            if (s < 1 || n < 0) {
                return Value.ofError(VALUE_ERROR);
            }
            int start = Math.min(s - 1, text.length());
            int behind = start + Math.min(n, text.length() - start);
            StringBuilder made = new StringBuilder();
            made.append(text.substring(0, start));
            made.append(instead);
            made.append(text.substring(behind, text.length()));
            return textOrTooLong(made);
        }

        private Value substitute() {
            String text = given.text(0);
            String part = given.text(1);
            String instead = given.text(2);
            boolean each = !given.isThere(3);
            int k = each ? 1 : given.whole(3);
            if (k < 1) {
                return Value.ofError(VALUE_ERROR);
            }
            if (part.isEmpty()) {
                return Value.ofText(text);
            }
            StringBuilder made = new StringBuilder();
            int number = 0;
            int at = 0;
            while (at < text.length() && made.length() <= MOST_CHARACTERS) {
                if (isAt(part, text, at)) {
                    number++;
                    made.append(each || number == k ? instead : part);
                    at += part.length();
                } else {
                    made.append(text.charAt(at));
                    at++;
                }
            }
            return textOrTooLong(made);
        }

        private Value repeat() {
            String text = given.text(0);
            int n = given.whole(1);
            if (n < 0 || (long) n * text.length() > MOST_CHARACTERS) {
                return Value.ofError(VALUE_ERROR);
            }
            int many = text.isEmpty() ? 0 : n;
            StringBuilder made = new StringBuilder();
            for (int k = 0; k < many; k++) {
                made.append(text);
            }
            return textOrTooLong(made);
        }

        private Value sized(boolean asGreat) {
            String text = given.text(0);
            StringBuilder made = new StringBuilder();
            for (int k = 0; k < text.length(); k++) {
                char c = text.charAt(k);
                made.append(asGreat ? great(c) : small(c));
            }
            return textOrTooLong(made);
        }

        private Value proper() {
            String text = given.text(0);
            StringBuilder made = new StringBuilder();
            boolean behindLetter = false;
            for (int k = 0; k < text.length(); k++) {
                char c = text.charAt(k);
                made.append(behindLetter ? small(c) : great(c));
                behindLetter = isLetter(c);
            }
            return textOrTooLong(made);
        }

        private Value trim() {
            String text = given.text(0);
            StringBuilder made = new StringBuilder();
            boolean behindBlank = false;
            for (int k = 0; k < text.length(); k++) {
                char c = text.charAt(k);
                if (c != ' ') {
                    if (behindBlank && made.length() > 0) {
                        made.append(' ');
                    }
                    made.append(c);
                }
                behindBlank = c == ' ';
            }
            return textOrTooLong(made);
        }

        private Value concatenate() {
            StringBuilder made = new StringBuilder();
            for (int i = 0; i < given.count; i++) {
                appendWhileShort(made, given.text(i));
            }
            return textOrTooLong(made);
        }

        // A text that is too long already stays so: the rest of it need not be made.
        private static void appendWhileShort(StringBuilder made, String text) {
            if (made.length() <= MOST_CHARACTERS) {
                made.append(text);
            }
        }

        private Value join() {
            String between = given.text(0);
            boolean passEmpty = given.truth(1);
            StringBuilder made = new StringBuilder();
            boolean first = true;
            for (int i = 2; i < given.count; i++) {
                int many = given.many(i);
                for (int k = 0; k < many; k++) {
                    String text = given.textOf(given.nth(i, k));
                    if (!passEmpty || !text.isEmpty()) {
                        appendWhileShort(made, first ? "" : between);
                        appendWhileShort(made, text);
                        first = false;
                    }
                }
            }
            return textOrTooLong(made);
        }

        private Value exact() {
            String one = given.text(0);
            String other = given.text(1);
            return Value.ofTruth(one.equals(other));
        }

        private Value character() {
            int n = given.whole(0);
            if (n < 1 || n > 255) {
                return Value.ofError(VALUE_ERROR);
            }
            StringBuilder made = new StringBuilder();
            made.append((char) n);
            return textOrTooLong(made);
        }

        private Value code() {
            String text = given.text(0);
            return text.isEmpty() ? Value.ofError(VALUE_ERROR) : Value.ofNumber(text.charAt(0));
        }

        private Value roman() {
            int rest = given.whole(0);
            if (rest < 0 || rest > 3999) {
                return Value.ofError(VALUE_ERROR);
            }
            StringBuilder made = new StringBuilder();
            for (int k = 0; k < ROMAN_VALUES.length; k++) {
                char second = ROMAN_LETTERS.charAt(2 * k + 1);
                while (rest >= ROMAN_VALUES[k]) {
                    made.append(ROMAN_LETTERS.charAt(2 * k));
                    if (second != ' ') {
                        made.append(second);
                    }
                    rest -= ROMAN_VALUES[k];
                }
            }
            return textOrTooLong(made);
        }

        private Value base() {
            double number = given.number(0);
            int n = given.whole(1);
            int least = given.wholeOr(2, 0);
            if (number <= -1.0 || number >= LAST_DECIMAL + 1.0 || n < 2 || n > 36
                    || least < 0 || least > MOST_CHARACTERS) {
                return Value.ofError(NUM_ERROR);
            }
            StringBuilder made = new StringBuilder();
            long rest = (long) number;
            int digits = Math.max(least, 1);
            for (int k = 0; k < MOST_CHARACTERS && (k < digits || rest > 0); k++) {
                int digit = (int) (rest % n);
                made.append((char) (digit < 10 ? '0' + digit : 'A' + digit - 10));
                rest /= n;
            }
            made.reverse();
            return textOrTooLong(made);
        }

        private static int digitOf(char c) {
            if (c >= '0' && c <= '9') {
                return c - '0';
            }
            return isLetter(c) ? great(c) - 'A' + 10 : NONE;
        }

        private Value decimal() {
            String text = given.text(0);
            int n = given.whole(1);
            if (n < 2 || n > 36) {
                return Value.ofError(NUM_ERROR);
            }
            long number = 0;
            for (int k = 0; k < text.length(); k++) {
                int digit = digitOf(text.charAt(k));
                number = number * n + digit;
                if (digit == NONE || digit >= n || number > LAST_DECIMAL) {
                    return Value.ofError(NUM_ERROR);
                }
            }
            return Value.ofNumber(number);
        }
    }

    /** The functions 90 to 99, and INDEX. */
    private static final class LookUps {
        private static final int EXACTLY = 0;
        private static final int NOT_ABOVE = 1;
        private static final int NOT_BELOW = -1;

        private final Arguments given;
        private final Pattern pattern;

        LookUps(Arguments given, Pattern pattern) {
            this.given = given;
            this.pattern = pattern;
        }

        Value of(int function) {
            switch (function) {
                case 90: return inTable(true);
                case 91: return inTable(false);
                case 92: return lookUp();
                case 93: return match();
                case 95: return cell(false);
                case 96: return cell(true);
                case 97: return Value.ofNumber(given.rows(0));
                case 98: return Value.ofNumber(given.columns(0));
                default: return address();
            }
        }

        private Value sought() {
            Value x = given.nth(0, 0);
            if (x.kind == ERROR) {
                given.fail((int) x.number);
            }
            return x.kind == EMPTY ? Value.ofNumber(0.0) : x;
        }

        /** The number, from 0, of the value found among every step-th one of a grid; or NONE. */
        private int find(Value x, int grid, int step, int many, int how) {
            boolean asPattern = how == EXACTLY && x.kind == TEXT
                    && (x.text.indexOf('?') >= 0 || x.text.indexOf('*') >= 0);
            if (asPattern) {
                pattern.read(x.text);
            }
            int found = NONE;
            for (int k = 0; k < many; k++) {
                Value value = given.nth(grid, k * step);
                if (value.kind == x.kind) {
                    boolean fits = asPattern
                            ? pattern.matches(value.text, true) : fits(order(value, x), how);
                    if (fits && how == EXACTLY) {
                        return k;
                    }
                    found = fits ? k : found;
                }
            }
            return found;
        }

        private static boolean fits(int order, int how) {
            if (how == EXACTLY) {
                return order == 0;
            }
            return how == NOT_ABOVE ? order <= 0 : order >= 0;
        }

        /** Below, above or 0: how one value stands to another one of its kind. */
        private static int order(Value one, Value other) {
            if (one.kind != TEXT) {
                return one.number < other.number ? -1 : one.number > other.number ? 1 : 0;
            }
            int both = Math.min(one.text.length(), other.text.length());
            for (int k = 0; k < both; k++) {
                int order = great(one.text.charAt(k)) - great(other.text.charAt(k));
                if (order != 0) {
                    return order;
                }
            }
            return one.text.length() - other.text.length();
        }

        private Value inTable(boolean byRows) {
            Value x = sought();
            int n = given.whole(2);
            int how = given.truthOr(3, true) ? NOT_ABOVE : EXACTLY;
            int rows = given.rows(1);
            int columns = given.columns(1);
            if (n < 1) {
                return Value.ofError(VALUE_ERROR);
            }
            if (n > (byRows ? columns : rows)) {
                return Value.ofError(REF_ERROR);
            }
            int found = byRows ? find(x, 1, columns, rows, how) : find(x, 1, 1, columns, how);
            if (found == NONE) {
                return Value.ofError(NA_ERROR);
            }
            return byRows ? given.at(1, found, n - 1) : given.at(1, n - 1, found);
        }

        private Value lookUp() {
            Value x = sought();
            int rows = given.rows(1);
            int columns = given.columns(1);
            int found;
            Value value;
            if (!given.isLeftOut(2)) {
                found = find(x, 1, 1, rows * columns, NOT_ABOVE);
                if (found >= given.many(2)) {
                    found = NONE;
                }
                value = given.nth(2, found);
            } else if (columns > rows) {
                found = find(x, 1, 1, columns, NOT_ABOVE);
                value = given.at(1, rows - 1, found);
            } else {
                found = find(x, 1, columns, rows, NOT_ABOVE);
                value = given.at(1, found, columns - 1);
            }
            return found == NONE ? Value.ofError(NA_ERROR) : value;
        }

        private Value match() {
            Value x = sought();
            int n = given.wholeOr(2, 1);
            if (given.rows(1) > 1 && given.columns(1) > 1) {
                return Value.ofError(NA_ERROR);
            }
            int how = n == 0 ? EXACTLY : n > 0 ? NOT_ABOVE : NOT_BELOW;
            int found = find(x, 1, 1, given.many(1), how);
            return found == NONE ? Value.ofError(NA_ERROR) : Value.ofNumber(found + 1);
        }

        void index(Answer answer) {
            int rows = given.rows(0);
            int columns = given.columns(0);
            boolean three = given.isThere(2);
            int r = given.whole(1);
            int c = three ? given.whole(2) : 1;
            if (!three && rows == 1) {
                c = r;
                r = 1;
            }
            if (given.fault != 0) {
                answer.become(Value.ofError(given.fault));
            } else if (r < 0 || c < 0) {
                answer.become(Value.ofError(VALUE_ERROR));
            } else if (r > rows || c > columns) {
                answer.become(Value.ofError(REF_ERROR));
            } else {
                answer.becomePart(given, Math.max(r - 1, 0), Math.max(c - 1, 0),
                        r == 0 ? rows : 1, c == 0 ? columns : 1);
            }
        }

        private Value cell(boolean column) {
            if (given.isLeftOut(0)) {
                return Value.ofNumber(column ? given.homeColumn : given.homeRow);
            }
            Grid grid = given.grid(0);
            if (!grid.isRange) {
                return Value.ofError(VALUE_ERROR);
            }
            return Value.ofNumber(column ? grid.sheetColumn : grid.sheetRow);
        }

        private Value address() {
            int r = given.whole(0);
            int c = given.whole(1);
            int n = given.wholeOr(2, 1);
            boolean asLetters = given.truthOr(3, true);
            boolean named = !given.isLeftOut(4);
            String name = given.text(4);
            if (!isCell(r, c) || n < 1 || n > 4) {
                return Value.ofError(VALUE_ERROR);
            }
            boolean rowFixed = n <= 2;
            boolean columnFixed = n == 1 || n == 3;
            StringBuilder made = new StringBuilder();
            if (named) {
                made.append(name);
                made.append('!');
            }
            if (asLetters) {
                made.append(columnFixed ? "$" : "");
                appendColumn(made, c);
                made.append(rowFixed ? "$" : "");
                made.append(r);
            } else {
                appendNumbered(made, 'R', r, rowFixed);
                appendNumbered(made, 'C', c, columnFixed);
            }
            return textOrTooLong(made);
        }

        // Columns are counted A .. Z, AA .. ZZ (from 27 on), AAA .. (from 703 on).
        private static void appendColumn(StringBuilder made, int c) {
            if (c >= 703) {
                made.append((char) ('A' + (c - 703) / 676));
            }
            if (c >= 27) {
                made.append((char) ('A' + (c - 27) / 26 % 26));
            }
            made.append((char) ('A' + (c - 1) % 26));
        }

        private static void appendNumbered(StringBuilder made, char what, int n, boolean fixed) {
            made.append(what);
            made.append(fixed ? "" : "[");
            made.append(n);
            made.append(fixed ? "" : "]");
        }
    }

    /**
     * Days as their numbers since December 30, 1899, and months as their numbers since the January
     * of the year 0, so that months later and earlier are sums.
     */
    private static final class Calendar {
        private static final int LAST_DAY = 2958465;
        // So many days lie from January 1 of the year 1 to December 30, 1899.
        private static final int DAYS_BEFORE = 693593;
        private static final int[] BEFORE_MONTH = {
            0, 31, 59, 90, 120, 151, 181, 212, 243, 273, 304, 334
        };
        // Day 2 is the first Monday.
        private static final int MONDAY = 2;

        static boolean isDate(int day) {
            return day >= 0 && day <= LAST_DAY;
        }

        static boolean hasDay(double number) {
            return number >= 0.0 && number < LAST_DAY + 1.0;
        }

        private static boolean isLeap(int year) {
            return Math.floorMod(year, 4) == 0
                    && (Math.floorMod(year, 100) != 0 || Math.floorMod(year, 400) == 0);
        }

        static int firstOf(int month) {
            int year = Math.floorDiv(month, 12);
            int inYear = Math.floorMod(month, 12);
            int over = year - 1;
            int leapDays = Math.floorDiv(over, 4) - Math.floorDiv(over, 100)
                    + Math.floorDiv(over, 400);
            int leapDay = inYear > 1 && isLeap(year) ? 1 : 0;
            return over * 365 + leapDays - DAYS_BEFORE + BEFORE_MONTH[inYear] + leapDay;
        }

        static int lengthOf(int month) {
            return firstOf(month + 1) - firstOf(month);
        }

        static int monthOf(int day) {
            // 4800 months have 146097 days; the months' lengths differ from that by few days.
            int month = (int) ((day + DAYS_BEFORE) * 4800L / 146097) + 14;
            for (int k = 0; k < 5 && firstOf(month) > day; k++) {
                month--;
            }
            return month;
        }

        static int dayInMonth(int day) {
            return day - firstOf(monthOf(day)) + 1;
        }

        static boolean isWorkday(int day) {
            return Math.floorMod(day - MONDAY, 7) < 5;
        }

        /** The number of the Mondays to Fridays from the first Monday to a day. */
        static int workdaysTo(int day) {
            int since = day - MONDAY;
            return 5 * Math.floorDiv(since, 7) + Math.min(Math.floorMod(since, 7) + 1, 5);
        }

        /** The day of which workdaysTo first tells this number. */
        static int workday(int number) {
            return MONDAY + 7 * Math.floorDiv(number - 1, 5) + Math.floorMod(number - 1, 5);
        }
    }

    /** The functions 101 to 116. */
    private static final class Dates {
        private static final int DAY_SECONDS = 86400;
        private static final int FARTHEST = 100000;

        private final Arguments given;
        // The free Mondays to Fridays that a call is given, in their order, each once.
        private final int[] free = new int[MOST_VALUES];
        private int freeCount;

        Dates(Arguments given) {
            this.given = given;
        }

        Value of(int function) {
            switch (function) {
                case 101: return date();
                case 102: return time();
                case 103: return Value.ofNumber(Calendar.monthOf(given.day(0)) / 12);
                case 104: return Value.ofNumber(Calendar.monthOf(given.day(0)) % 12 + 1);
                case 105: return Value.ofNumber(Calendar.dayInMonth(given.day(0)));
                case 106: return Value.ofNumber(secondsOfDay() / 3600);
                case 107: return Value.ofNumber(secondsOfDay() / 60 % 60);
                case 108: return Value.ofNumber(secondsOfDay() % 60);
                case 109: return weekday();
                case 110: return weekNumber();
                case 111: return monthsLater(false);
                case 112: return monthsLater(true);
                case 113: return days();
                case 114: return difference();
                case 115: return workdays();
                default: return workday();
            }
        }

        private static Value dateOrError(int day) {
            return Calendar.isDate(day) ? Value.ofNumber(day) : Value.ofError(NUM_ERROR);
        }

        private static boolean isFar(int n) {
            return n < -FARTHEST || n > FARTHEST;
        }

        private Value date() {
            int y = given.whole(0);
            int m = given.whole(1);
            int d = given.whole(2);
            if (y < 0 || y > 9999 || isFar(m) || isFar(d)) {
                return Value.ofError(NUM_ERROR);
            }
            int year = y < 1900 ? y + 1900 : y;
            return dateOrError(Calendar.firstOf(year * 12 + m - 1) + d - 1);
        }

        private static boolean isInTime(int n) {
            return n >= 0 && n <= 32767;
        }

        private Value time() {
            int h = given.whole(0);
            int m = given.whole(1);
            int s = given.whole(2);
            if (!isInTime(h) || !isInTime(m) || !isInTime(s)) {
                return Value.ofError(NUM_ERROR);
            }
            return Value.ofNumber((h * 3600 + m * 60 + s) % DAY_SECONDS / 86400.0);
        }

        private int secondsOfDay() {
            int day = given.day(0);
            if (given.fault != 0) {
                return 0;
            }
            double exact = (given.number(0) - day) * 86400.0;
            int seconds = (int) exact;
            if (exact - seconds >= 0.5) {
                seconds++;
            }
            return seconds % DAY_SECONDS;
        }

        private Value weekday() {
            int day = given.day(0);
            int n = given.wholeOr(1, 1);
            int sinceMonday = Math.floorMod(day - Calendar.MONDAY, 7);
            switch (n) {
                case 1: return Value.ofNumber((sinceMonday + 1) % 7 + 1);
                case 2: return Value.ofNumber(sinceMonday + 1);
                case 3: return Value.ofNumber(sinceMonday);
                default: return Value.ofError(NUM_ERROR);
            }
        }

        private Value weekNumber() {
            int day = given.day(0);
            int n = given.wholeOr(1, 1);
            if (n != 1 && n != 2) {
                return Value.ofError(NUM_ERROR);
            }
            int month = Calendar.monthOf(day);
            int newYear = Calendar.firstOf(month - month % 12);
            int beginning = n == 1 ? Calendar.MONDAY - 1 : Calendar.MONDAY;
            int beforeNewYear = Math.floorMod(newYear - beginning, 7);
            return Value.ofNumber((day - newYear + beforeNewYear) / 7 + 1);
        }

        private Value monthsLater(boolean last) {
            int day = given.day(0);
            int n = given.whole(1);
            if (isFar(n)) {
                return Value.ofError(NUM_ERROR);
            }
            int month = Calendar.monthOf(day) + n;
            int length = Calendar.lengthOf(month);
            int inMonth = last ? length : Math.min(Calendar.dayInMonth(day), length);
            return dateOrError(Calendar.firstOf(month) + inMonth - 1);
        }

        private Value days() {
            int one = given.day(0);
            int other = given.day(1);
            return Value.ofNumber(one - other);
        }

        private Value difference() {
            int a = given.day(0);
            int b = given.day(1);
            String t = given.text(2);
            if (a > b) {
                return Value.ofError(NUM_ERROR);
            }
            int months = Calendar.monthOf(b) - Calendar.monthOf(a);
            if (Calendar.dayInMonth(b) < Calendar.dayInMonth(a)) {
                months--;
            }
            if (isWord(t, "Y")) {
                return Value.ofNumber(months / 12);
            }
            if (isWord(t, "M")) {
                return Value.ofNumber(months);
            }
            if (isWord(t, "D")) {
                return Value.ofNumber(b - a);
            }
            if (isWord(t, "YM")) {
                return Value.ofNumber(months % 12);
            }
            if (isWord(t, "MD")) {
                return Value.ofNumber(b - over(a, months));
            }
            if (isWord(t, "YD")) {
                return Value.ofNumber(b - over(a, months - months % 12));
            }
            return Value.ofError(NUM_ERROR);
        }

        private static boolean isWord(String text, String word) {
            if (text.length() != word.length()) {
                return false;
            }
            for (int k = 0; k < word.length(); k++) {
                if (great(text.charAt(k)) != word.charAt(k)) {
                    return false;
                }
            }
            return true;
        }

        /** The day on which so many months from a day on are over. */
        private static int over(int day, int months) {
            int own = Calendar.monthOf(day);
            int daysBehindFirst = day - Calendar.firstOf(own);
            int nextFirst = Calendar.firstOf(own + months + 1);
            return Math.min(Calendar.firstOf(own + months) + daysBehindFirst, nextFirst);
        }

        private void readFree(int i) {
            freeCount = 0;
            int many = given.many(i);
            for (int k = 0; k < many; k++) {
                Value value = given.nth(i, k);
                if (value.kind == NUMBER && Calendar.hasDay(value.number)) {
                    addFree((int) value.number);
                }
            }
        }

        private void addFree(int day) {
            int at = freeCount;
            while (at > 0 && free[at - 1] > day) {
                at--;
            }
            boolean known = at > 0 && free[at - 1] == day;
            if (known || !Calendar.isWorkday(day) || freeCount >= free.length) {
                return;
            }
            for (int k = freeCount; k > at; k--) {
                free[k] = free[k - 1];
            }
            free[at] = day;
            freeCount++;
        }

        private Value workdays() {
            int a = given.day(0);
            int b = given.day(1);
            readFree(2);
            int from = Math.min(a, b);
            int to = Math.max(a, b);
            int many = Calendar.workdaysTo(to) - Calendar.workdaysTo(from - 1);
            for (int k = 0; k < freeCount; k++) {
                if (free[k] >= from && free[k] <= to) {
                    many--;
                }
            }
            return Value.ofNumber(a <= b ? many : -many);
        }

        private Value workday() {
            int a = given.day(0);
            int n = given.whole(1);
            readFree(2);
            if (isFar(n)) {
                return Value.ofError(NUM_ERROR);
            }
            if (n == 0) {
                return Value.ofNumber(a);
            }
            return dateOrError(n > 0 ? workdayBehind(a, n) : workdayBefore(a, -n));
        }

        private int workdayBehind(int a, int n) {
            int number = Calendar.workdaysTo(a) + n;
            for (int k = 0; k < freeCount; k++) {
                if (free[k] > a && free[k] <= Calendar.workday(number)) {
                    number++;
                }
            }
            return Calendar.workday(number);
        }

        private int workdayBefore(int a, int n) {
            int number = Calendar.workdaysTo(a - 1) - n + 1;
            for (int k = freeCount - 1; k >= 0; k--) {
                if (free[k] < a && free[k] >= Calendar.workday(number)) {
                    number--;
                }
            }
            return Calendar.workday(number);
        }
    }

    /** The functions 119 to 132. */
    private static final class Kinds {
        private final Arguments given;

        Kinds(Arguments given) {
            this.given = given;
        }

        Value of(int function) {
            Value value = given.nth(0, 0);
            boolean isNa = value.kind == ERROR && value.number == NA_ERROR;
            switch (function) {
                case 119: return Value.ofTruth(value.kind == EMPTY);
                case 120: return Value.ofTruth(value.kind == NUMBER);
                case 121: return Value.ofTruth(value.kind == TEXT);
                case 122: return Value.ofTruth(value.kind != TEXT);
                case 123: return Value.ofTruth(value.kind == TRUTH);
                case 124: return Value.ofTruth(value.kind == ERROR);
                case 125: return Value.ofTruth(value.kind == ERROR && !isNa);
                case 126: return Value.ofTruth(isNa);
                case 127: return Value.ofTruth(given.whole(0) % 2 == 0);
                case 128: return Value.ofTruth(given.whole(0) % 2 != 0);
                case 129: return Value.ofError(NA_ERROR);
                case 130: return Value.ofNumber(typeOf(value));
                case 131: return value.kind == ERROR
                        ? Value.ofNumber(value.number) : Value.ofError(NA_ERROR);
                default: return Value.ofNumber(3.141592653589793);
            }
        }

        private int typeOf(Value value) {
            if (given.many(0) > 1) {
                return GRID;
            }
            switch (value.kind) {
                case TEXT: return 2;
                case TRUTH: return 4;
                case ERROR: return 16;
                default: return 1;
            }
        }
    }
}
