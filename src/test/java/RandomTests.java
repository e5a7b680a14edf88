import java.util.Random;
import java.util.regex.Pattern;

/** Patterns, texts and look-ups against plainer ways to find them, and calls of any kind. */
public final class RandomTests {
    private RandomTests() { }

    public static void main(String[] args) {
        patterns();
        numerals();
        numbersAndTexts();
        finding();
        anyCalls();
        Probe.finish("RandomTests");
    }

    private static String some(Random random, String letters, int most) {
        StringBuilder b = new StringBuilder();
        for (int k = random.nextInt(most + 1); k > 0; k--) {
            b.append(letters.charAt(random.nextInt(letters.length())));
        }
        return b.toString();
    }

    private static Pattern regex(String p) {
        StringBuilder b = new StringBuilder();
        for (int k = 0; k < p.length(); k++) {
            char c = p.charAt(k);
            if (c == '~' && k + 1 < p.length() && "?*~".indexOf(p.charAt(k + 1)) >= 0) {
                k++;
                b.append(Pattern.quote(String.valueOf(p.charAt(k))));
            } else {
                b.append(c == '?' ? "." : c == '*' ? ".*" : Pattern.quote(String.valueOf(c)));
            }
        }
        return Pattern.compile(b.toString(), Pattern.CASE_INSENSITIVE | Pattern.DOTALL);
    }

    private static void patterns() {
        Random random = new Random(11);
        for (int k = 0; k < 40000; k++) {
            String p = some(random, "aAb?*~", 6);
            String t = some(random, "aAbB~?*", 8);
            int s = 1 + random.nextInt(t.length() + 1);
            Object due = Probe.VALUE;
            for (int at = t.length(); at >= s - 1; at--) {
                due = regex(p).matcher(t.substring(at)).lookingAt() ? at + 1 : due;
            }
            Probe.is(due, 71, p, t, s);
            if (p.indexOf('?') >= 0 || p.indexOf('*') >= 0) {
                Probe.is(regex(p).matcher(t).matches() ? 1 : Probe.NA, 93, p, t, 0);
            } else {
                Probe.is(p.equalsIgnoreCase(t) ? 1 : Probe.NA, 93, p, t, 0);
            }
        }
    }

    private static void numerals() {
        Random random = new Random(12);
        for (int k = 0; k < 5000; k++) {
            long number = random.nextLong() >>> (11 + random.nextInt(53));
            int base = 2 + random.nextInt(35);
            String text = Long.toString(number, base);
            Probe.is(text.toUpperCase(), 88, (double) number, base);
            Probe.is(number, 89, text, base);
        }
        for (int n = 0; n <= 3999; n++) {
            String text = "M".repeat(n / 1000) + place(n / 100 % 10, "C", "D", "M")
                    + place(n / 10 % 10, "X", "L", "C") + place(n % 10, "I", "V", "X");
            Probe.is(text, 87, n);
        }
    }

    private static String place(int digit, String one, String five, String ten) {
        return digit == 9 ? one + ten : digit == 4 ? one + five
                : (digit >= 5 ? five : "") + one.repeat(digit % 5);
    }

    private static void numbersAndTexts() {
        Random random = new Random(13);
        for (int k = 0; k < 5000; k++) {
            int behind = random.nextInt(4);
            int digits = 1 + random.nextInt(9);
            StringBuilder b = new StringBuilder(random.nextBoolean() ? "-" : "");
            for (int d = 0; d < digits + behind; d++) {
                b.append(d == digits ? "." : "").append((char) ('0' + random.nextInt(10)));
            }
            double number = Double.parseDouble(b.toString()) + 0.0;
            String text = new java.math.BigDecimal(b.toString()).stripTrailingZeros()
                    .toPlainString();
            Probe.is(text, 79, number);
            Probe.is(number == 0.0, 81, 0, number);
            if (number >= 0.0 && number < 2958466.0) {
                Probe.same("MINUTE of " + b, Probe.answer(107, b.toString()),
                        Probe.answer(107, number));
            }
        }
    }

    private static void finding() {
        Random random = new Random(14);
        Object[] some = {Probe.EMPTY, 0, 1, 2, 3, true, false, "a", "B", "b", "c", "", Probe.NA};
        for (int k = 0; k < 20000; k++) {
            Object[] row = new Object[1 + random.nextInt(8)];
            for (int v = 0; v < row.length; v++) {
                row[v] = some[random.nextInt(some.length)];
            }
            Object x = some[random.nextInt(some.length - 1)];
            Object sought = x == Probe.EMPTY ? (Object) 0 : x;
            int n = random.nextInt(3) - 1;
            Object due = Probe.NA;
            for (int v = row.length - 1; v >= 0; v--) {
                Integer order = order(row[v], sought);
                boolean fits = order != null
                        && (n == 0 ? order == 0 : n > 0 ? order <= 0 : order >= 0);
                due = fits && (n == 0 || due == Probe.NA) ? v + 1 : due;
            }
            boolean upright = random.nextBoolean();
            Probe.is(due, 93, x, Probe.grid(upright ? row.length : 1, upright ? 1 : row.length, row), n);
        }
    }

    private static Integer order(Object one, Object other) {
        if (one == Probe.EMPTY || one instanceof Probe.Err || one.getClass() != other.getClass()) {
            return null;
        }
        if (one instanceof Integer i) {
            return i.compareTo((Integer) other);
        }
        return one instanceof Boolean b ? b.compareTo((Boolean) other)
                : (Integer) ((String) one).toUpperCase().compareTo(((String) other).toUpperCase());
    }

    // Whatever is called, in whatever order: nothing but the promised exceptions, and answers that
    // are within their bounds.
    private static void anyCalls() {
        Random random = new Random(15);
        for (int run = 0; run < 40000; run++) {
            WordFunctions x = new WordFunctions();
            for (int k = 0; k < 55; k++) {
                anyCall(x, random);
            }
        }
    }

    private static int anyInt(Random random) {
        switch (random.nextInt(8)) {
            case 0: return random.nextInt();
            case 1: return Integer.MAX_VALUE - random.nextInt(2);
            case 2: return Integer.MIN_VALUE + random.nextInt(2);
            case 3: return random.nextInt(600) - 40;
            default: return random.nextInt(6) - 1;
        }
    }

    private static double anyDouble(Random random) {
        double[] some = {0.0, -0.0, 1.0, -1.0, 0.5, 1E300, -1E300, 9E299, -9E299, 1E12, 45292.3,
            2958465.9, 2958466.0, 2147483647.5, -2147483648.0, 100000.0, -100001.0, 32767.0,
            Double.NaN, Double.POSITIVE_INFINITY, Double.MIN_VALUE, 9007199254740992.0, 255, 36};
        return random.nextInt(3) == 0 ? some[random.nextInt(some.length)]
                : random.nextInt(14) - 2;
    }

    private static void anyCall(WordFunctions x, Random random) {
        switch (random.nextInt(16)) {
            case 0: x.feed(random.nextInt(), 0x61623F2A, 0x312E357E, anyInt(random), 0); break;
            case 1: x.end(random.nextInt(30) - 2); break;
            case 2: x.end(anyInt(random)); break;
            case 3: x.home(anyInt(random), anyInt(random)); break;
            case 4: x.range(anyInt(random), anyInt(random)); break;
            case 5: x.putText(anyInt(random)); break;
            case 6: case 7: x.put(random.nextInt(6), random.nextInt(7) - 1, anyDouble(random)); break;
            case 8: x.put(anyInt(random), anyInt(random), anyDouble(random)); break;
            case 9: anyAnswer(x, random); break;
            case 10: case 11: case 12: anyArgument(x, random); break;
            default: anyFunction(x, random); break;
        }
    }

    private static void anyAnswer(WordFunctions x, Random random) {
        int kind = x.look(anyInt(random), anyInt(random));
        double value = x.value();
        int letter = x.letter(anyInt(random));
        if (kind < -1 || kind > 4 || value != value || letter < -1 || letter > 255) {
            Probe.same("an answer within its bounds", kind + " " + value + " " + letter, "so");
        }
    }

    private static void anyArgument(WordFunctions x, Random random) {
        boolean small = random.nextInt(8) > 0;
        int rows = small ? random.nextInt(4) : anyInt(random);
        int columns = small ? random.nextInt(4) : anyInt(random);
        try {
            x.argument(rows, columns);
        } catch (IllegalArgumentException e) {
            if (rows > 0 && columns > 0 || rows == 0 && columns == 0) {
                Probe.same("argument " + rows + " " + columns, e.toString(), "");
            }
        } catch (IllegalStateException e) {
            if ((rows < 1 || columns < 1) && (rows != 0 || columns != 0)) {
                Probe.same("argument " + rows + " " + columns, e.toString(), "");
            }
        }
    }

    private static void anyFunction(WordFunctions x, Random random) {
        int function = random.nextInt(10) == 0 ? anyInt(random) : 60 + random.nextInt(78);
        String before = x.size(false) + " " + x.size(true) + " " + x.value() + " " + x.letter(0);
        try {
            int kind = x.call(function);
            boolean many = x.size(false) * x.size(true) > 1;
            if (function < 66 || function > 132 || many != (kind == 64) || kind < 0
                    || !many && x.look(0, 0) != kind || kind == 2 && x.value() > 255) {
                Probe.same("function " + function, kind, "another kind");
            }
        } catch (IllegalArgumentException e) {
            Probe.same("refused " + function, x.size(false) + " " + x.size(true) + " " + x.value()
                    + " " + x.letter(0), before);
        }
    }
}
