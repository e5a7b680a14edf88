import java.util.ArrayList;
import java.util.List;

/**
 * Calls functions of a WordFunctions with Java values, and counts the answers not due. Every
 * answer is asked twice: of a new object, and of one that other calls went before.
 */
final class Probe {
    static final String LEFT_OUT = new String("left out");
    static final String EMPTY = new String("empty");
    static final Err NULL = new Err(1);
    static final Err DIV0 = new Err(2);
    static final Err VALUE = new Err(3);
    static final Err REF = new Err(4);
    static final Err NAME = new Err(5);
    static final Err NUM = new Err(6);
    static final Err NA = new Err(7);

    // No more is promised of an object.
    private static final int MOST_CALLS = 512;

    private static int wrong;
    private static int checks;
    private static int calls;
    private static WordFunctions used = new WordFunctions();
    private static int usedCalls;

    record Err(int number) { }

    record Grid(int rows, int columns, int sheetRow, int sheetColumn, Object... values) { }

    private Probe() { }

    static Grid grid(int rows, int columns, Object... values) {
        if (values.length != rows * columns) {
            throw new IllegalStateException("a grid of the test has not its values");
        }
        return new Grid(rows, columns, 0, 0, values);
    }

    static Grid blank(int rows, int columns) {
        Object[] values = new Object[rows * columns];
        java.util.Arrays.fill(values, EMPTY);
        return new Grid(rows, columns, 0, 0, values);
    }

    static Grid ranged(int row, int column, Grid grid) {
        return new Grid(grid.rows, grid.columns, row, column, grid.values);
    }

    static String chars(int count, char c) {
        return String.valueOf(c).repeat(count);
    }

    static boolean cut(WordFunctions x, String text) {
        for (int at = 0; at < text.length(); at += 20) {
            int[] words = new int[5];
            for (int k = 0; k < 20; k++) {
                int c = at + k < text.length() ? text.charAt(at + k) : 0;
                words[k / 4] |= c << (24 - 8 * (k % 4));
            }
            calls++;
            if (!x.feed(words[0], words[1], words[2], words[3], words[4])) {
                return false;
            }
        }
        calls++;
        return x.end(text.length());
    }

    static void set(WordFunctions x, int i, Object value) {
        boolean done;
        calls++;
        if (value == EMPTY) {
            done = x.put(i, 0, 0.0);
        } else if (value instanceof Number n) {
            done = x.put(i, 1, n.doubleValue());
        } else if (value instanceof Boolean b) {
            done = x.put(i, 3, b ? 1.0 : 0.0);
        } else if (value instanceof Err e) {
            done = x.put(i, 4, e.number);
        } else {
            done = cut(x, (String) value) && x.putText(i);
        }
        if (!done) {
            throw new IllegalStateException("a value of the test could not be put");
        }
    }

    static void give(WordFunctions x, Object argument) {
        calls++;
        if (argument == LEFT_OUT) {
            x.argument(0, 0);
        } else if (argument instanceof Grid g) {
            x.argument(g.rows, g.columns);
            for (int i = 0; i < g.values.length; i++) {
                if (g.values[i] != EMPTY) {
                    set(x, i, g.values[i]);
                }
            }
            calls++;
            if (g.sheetRow > 0 && !x.range(g.sheetRow, g.sheetColumn)) {
                throw new IllegalStateException("a range of the test is none");
            }
        } else {
            x.argument(1, 1);
            set(x, 0, argument);
        }
    }

    /** The value that is told, of this kind, as a text. */
    static String told(WordFunctions x, int kind) {
        double value = x.value();
        calls++;
        switch (kind) {
            case 0: return value == 0.0 ? "EMPTY" : "EMPTY with a number";
            case 1: return "number " + (value + 0.0);
            case 2: return "text " + letters(x, value);
            case 3: return "truth " + value;
            case 4: return "error " + value;
            default: return "kind " + kind;
        }
    }

    private static String letters(WordFunctions x, double length) {
        StringBuilder b = new StringBuilder();
        int letter = x.letter(0);
        while (letter != WordFunctions.NONE && b.length() < 300) {
            b.append((char) letter);
            letter = x.letter(b.length());
        }
        calls += b.length() + 1;
        return b.length() == length ? b.toString() : b + " with length " + length;
    }

    // Of a large grid some values only, so that an object is not asked too often.
    private static boolean isLookedAt(int k, int many) {
        return many <= 100 || k % 7 == 0 || k == many - 1;
    }

    static String answerOf(WordFunctions x, int kind) {
        int rows = x.size(false);
        int columns = x.size(true);
        calls += 2;
        if (rows == 1 && columns == 1) {
            String told = told(x, kind);
            double value = x.value();
            int letter = x.letter(0);
            calls += 5;
            boolean same = x.look(0, 0) == kind && x.value() == value && x.letter(0) == letter;
            return same ? told : "not one value";
        }
        List<String> all = new ArrayList<>();
        for (int k = 0; k < rows * columns; k++) {
            if (isLookedAt(k, rows * columns)) {
                calls++;
                all.add(told(x, x.look(k / columns, k % columns)));
            }
        }
        return (kind == 64 ? "" : "kind " + kind + " of ") + rows + " x " + columns + " " + all;
    }

    private static String due(Object value) {
        if (value instanceof Grid g) {
            List<String> all = new ArrayList<>();
            for (int k = 0; k < g.values.length; k++) {
                if (isLookedAt(k, g.values.length)) {
                    all.add(due(g.values[k]));
                }
            }
            return g.rows + " x " + g.columns + " " + all;
        }
        if (value == EMPTY) {
            return "EMPTY";
        }
        if (value instanceof Number n) {
            return "number " + (n.doubleValue() + 0.0);
        }
        if (value instanceof Boolean b) {
            return "truth " + (b ? 1.0 : 0.0);
        }
        return value instanceof Err e ? "error " + (double) e.number : "text " + value;
    }

    static String answer(int function, Object... arguments) {
        int before = calls;
        String answer = answerOn(new WordFunctions(), function, arguments);
        int count = calls - before;
        if (count > MOST_CALLS) {
            throw new IllegalStateException("the test asks an object too often");
        }
        if (usedCalls + count > MOST_CALLS) {
            used = new WordFunctions();
            usedCalls = 0;
        }
        usedCalls += count;
        String again = answerOn(used, function, arguments);
        return again.equals(answer) ? answer : answer + ", behind other calls " + again;
    }

    private static String answerOn(WordFunctions x, int function, Object... arguments) {
        x.home(7, 5);
        for (Object argument : arguments) {
            give(x, argument);
        }
        calls += 2;
        return answerOf(x, x.call(function));
    }

    /** Checks that the function answers what is due. */
    static void is(Object due, int function, Object... arguments) {
        same(function + " of " + shown(arguments), answer(function, arguments), due(due));
    }

    private static String shown(Object[] arguments) {
        List<String> all = new ArrayList<>();
        for (Object a : arguments) {
            all.add(a == LEFT_OUT ? "-" : due(a));
        }
        return all.toString();
    }

    static void same(String what, Object answered, Object due) {
        checks++;
        if (!answered.equals(due)) {
            wrong++;
            System.out.println(what + ": answered " + answered + ", due is " + due);
        }
    }

    static void holds(String what, boolean condition) {
        same(what, condition, true);
    }

    static void throwsArgument(String what, Runnable call) {
        same(what, thrown(call), "IllegalArgumentException");
    }

    static void throwsState(String what, Runnable call) {
        same(what, thrown(call), "IllegalStateException");
    }

    static String thrown(Runnable call) {
        try {
            call.run();
            return "nothing";
        } catch (RuntimeException e) {
            return e.getClass().getSimpleName();
        }
    }

    static void finish(String name) {
        System.out.println(name + ": " + checks + " checks, " + wrong + " wrong");
        if (wrong > 0 || checks == 0) {
            System.exit(1);
        }
    }
}
