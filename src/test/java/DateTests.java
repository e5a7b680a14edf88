import java.time.DayOfWeek;
import java.time.LocalDate;
import java.time.YearMonth;
import java.time.temporal.ChronoUnit;
import java.util.Random;
import java.util.Set;
import java.util.TreeSet;

/** Promise 9: the answers of the functions 101 to 116, by hand and against Java's own dates. */
public final class DateTests {
    private static final LocalDate ORIGIN = LocalDate.of(1899, 12, 30);
    private static final int LAST = 2958465;

    private DateTests() { }

    public static void main(String[] args) {
        days();
        date();
        times();
        weeks();
        months();
        differences();
        workdays();
        everyDay();
        randomDates();
        randomDifferences();
        randomWorkdays();
        Probe.finish("DateTests");
    }

    private static void days() {
        Probe.is(1899, 103, 0);
        Probe.is(12, 104, 0.9);
        Probe.is(30, 105, Probe.EMPTY);
        Probe.is(9999, 103, LAST + 0.99);
        Probe.is(31, 105, LAST);
        Probe.is(Probe.NUM, 103, LAST + 1);
        Probe.is(Probe.NUM, 104, -0.1);
        Probe.is(Probe.NUM, 105, -1);
        Probe.is(Probe.NUM, 106, -0.1);
        Probe.is(Probe.NUM, 107, 9E299);
        Probe.is(Probe.NUM, 108, -9E299);
        Probe.is(2, 104, 60);
        Probe.is(2024, 103, "45352.5");
        Probe.is(Probe.VALUE, 103, "2024-01-01");
        Probe.is(Probe.NA, 103, Probe.NA);
        Probe.is(1899, 103, Probe.LEFT_OUT);
        Probe.is(-4, 113, 5, 9);
        Probe.is(4, 113, 9.9, 5.1);
        Probe.is(Probe.NUM, 113, -1, Probe.NA);
        Probe.is(Probe.NA, 113, 1, Probe.NA);
        Probe.is(LAST, 113, LAST, Probe.LEFT_OUT);
    }

    private static void date() {
        Probe.is(45352, 101, 2024, 2, 30);
        Probe.is(36891, 101, 100, 13, 0);
        Probe.is(2958465, 101, 9999, 13, 0);
        Probe.is(Probe.NUM, 101, 9999, 13, 1);
        Probe.is(2, 101, 0, 1, 1);
        Probe.is(0, 101, 0, 0, 30);
        Probe.is(Probe.NUM, 101, 0, 0, 29);
        Probe.is(2, 101, 1900, 1, 1);
        Probe.is(2 + 365, 101, 1, 1, 1);
        Probe.is(Probe.NUM, 101, -1, 1, 1);
        Probe.is(Probe.NUM, 101, 10000, -11, 1);
        Probe.is(Probe.NUM, 101, 2000, 100001, -100000);
        Probe.is(Probe.NUM, 101, 2000, -100001, 1);
        Probe.is(Probe.NUM, 101, 2000, 1, 100001);
        Probe.is(Probe.NUM, 101, 2000, 1, -100001);
        Probe.is(Probe.NUM, 101, 2000, 100000, 1);
        Probe.is(Probe.NUM, 101, 9999, -100000, 1);
        Probe.is(day(LocalDate.of(2000, 1, 1).plusDays(99999)), 101, 2000, 1, 100000);
        Probe.is(Probe.NUM, 101, 2000, 1, -100000);
        Probe.is(day(LocalDate.of(2300, 1, 1).minusDays(100001)), 101, 2300, 1, -100000);
        Probe.is(day(LocalDate.of(1999, 11, 30)), 101, 2000.9, Probe.LEFT_OUT, Probe.LEFT_OUT);
        Probe.is(Probe.VALUE, 101, -1, "x", Probe.NA);
        Probe.is(Probe.NA, 101, -1, 1, Probe.NA);
    }

    private static void times() {
        Probe.is(1.0 / 86400.0, 102, 23, 59, 61);
        Probe.is(0.5, 102, 12, 0, 0);
        Probe.is(0, 102, 24, 0, 0);
        Probe.is((32767 * 3661L % 86400) / 86400.0, 102, 32767, 32767, 32767);
        Probe.is(Probe.NUM, 102, 32768, 0, 0);
        Probe.is(Probe.NUM, 102, 0, -1, 0);
        Probe.is(Probe.NUM, 102, 0, 0, 32768);
        Probe.is(0, 102, Probe.LEFT_OUT, Probe.EMPTY, -0.5);
        Probe.is(Probe.NA, 102, -1, Probe.NA, 0);
        Probe.is(21, 106, 0.875);
        Probe.is(0, 107, 1.125);
        Probe.is(3, 106, 1.125);
        Probe.is(30, 107, 45000.6875);
        Probe.is(0, 106, 0.9999999);
        Probe.is(0, 108, 5.9999999);
        Probe.is(59, 107, 86398.0 / 86400.0);
        Probe.is(58, 108, 86398.0 / 86400.0);
        Probe.is(23, 106, 86399.4 / 86400.0);
        Probe.is(0, 106, 86399.6 / 86400.0);
        Probe.is(1, 108, 0.5 / 86400.0);
        Probe.is(0, 108, 0.49 / 86400.0);
        Probe.is(34, 108, 45292.5 + 34.4 / 86400.0);
        Probe.is(59, 108, 86399.45 / 86400.0);
        Probe.is(0, 108, 86399.55 / 86400.0);
    }

    private static void weeks() {
        Probe.is(7, 109, 0);
        Probe.is(1, 109, 1);
        Probe.is(2, 109, 2, 1);
        Probe.is(6, 109, 0, 2);
        Probe.is(7, 109, 1, 2);
        Probe.is(1, 109, 2, 2);
        Probe.is(6, 109, 1, 3);
        Probe.is(0, 109, 2, 3);
        Probe.is(1, 109, 1, Probe.LEFT_OUT);
        Probe.is(Probe.NUM, 109, 1, Probe.EMPTY);
        Probe.is(Probe.NUM, 109, 1, 4);
        Probe.is(Probe.NUM, 109, -1, Probe.NA);
        Probe.is(Probe.NA, 109, 1, Probe.NA);
        Probe.is(1, 110, 45292);
        Probe.is(2, 110, 45299, 2);
        Probe.is(1, 110, 45298, 2);
        Probe.is(2, 110, 45298, 1);
        Probe.is(2, 110, 45298, Probe.LEFT_OUT);
        Probe.is(52, 110, 0);
        Probe.is(53, 110, 1);
        Probe.is(Probe.NUM, 110, 1, 0);
        Probe.is(Probe.NUM, 110, 1, 3);
        Probe.is(Probe.NUM, 110, 1, Probe.EMPTY);
    }

    private static void months() {
        Probe.is(45351, 111, 45322, 1);
        Probe.is(45322, 111, 45322.9, 0.9);
        Probe.is(45260, 112, 45322, -2);
        Probe.is(45322, 112, 45322, Probe.LEFT_OUT);
        Probe.is(0, 111, 31, -1);
        Probe.is(Probe.NUM, 111, 30, -1);
        Probe.is(1, 112, 5, -1);
        Probe.is(1, 112, 0, 0);
        Probe.is(Probe.NUM, 112, 0, -1);
        Probe.is(LAST, 112, LAST - 30, 0);
        Probe.is(Probe.NUM, 112, LAST, 1);
        Probe.is(LAST - 1, 111, LAST - 31, 1);
        Probe.is(LAST, 111, LAST - 61, 2);
        Probe.is(Probe.NUM, 111, LAST, 1);
        Probe.is(Probe.NUM, 111, 0, 100001);
        Probe.is(Probe.NUM, 112, LAST, -100001);
        Probe.is(Probe.NUM, 111, 0, 100000);
        Probe.is(Probe.NUM, 112, LAST, -100000);
        Probe.is(Probe.NUM, 111, -1, Probe.NA);
        Probe.is(Probe.NA, 111, 1, Probe.NA);
    }

    private static void differences() {
        Probe.is(1, 114, 45322, 45352, "m");
        Probe.is(0, 114, 45322, 45352, "MD");
        Probe.is(29, 114, 45322, 45351, "MD");
        Probe.is(42, 114, 45292, 45700, "yd");
        int leap = day(LocalDate.of(2024, 2, 29));
        int before = day(LocalDate.of(2025, 2, 28));
        Probe.is(0, 114, leap, before, "Y");
        Probe.is(11, 114, leap, before, "YM");
        Probe.is(365, 114, leap, before, "YD");
        Probe.is(30, 114, leap, before, "MD");
        Probe.is(1, 114, leap, before + 1, "y");
        Probe.is(0, 114, leap, before + 1, "yM");
        Probe.is(0, 114, leap, before + 1, "Yd");
        Probe.is(0, 114, leap, before + 1, "mD");
        Probe.is(12, 114, leap, before + 1, "M");
        Probe.is(366, 114, leap, before + 1, "D");
        Probe.is(0, 114, 5, 5.9, "D");
        Probe.is(Probe.NUM, 114, 6, 5, "D");
        Probe.is(Probe.NUM, 114, 5, 6, "X");
        Probe.is(Probe.NUM, 114, 5, 6, "");
        Probe.is(Probe.NUM, 114, 5, 6, Probe.LEFT_OUT);
        Probe.is(Probe.NUM, 114, 5, 6, "DM");
        Probe.is(Probe.NUM, 114, 5, 6, "Y ");
        Probe.is(Probe.NUM, 114, 5, 6, "YMD");
        Probe.is(Probe.NA, 114, 6, 5, Probe.NA);
        Probe.is(Probe.NUM, 114, 6, -5, Probe.NA);
        Probe.is(Probe.VALUE, 114, "a", -5, Probe.NA);
        Probe.is(8100, 114, 0, LAST, "Y");
        Probe.is(LAST, 114, 0, LAST, "D");
    }

    private static void workdays() {
        Probe.Grid free = Probe.grid(4, 1, 45293, 45293.5, "x", 45297);
        Probe.is(22, 115, 45292, 45322, free);
        Probe.is(23, 115, 45292, 45322);
        Probe.is(23, 115, 45292, 45322, Probe.LEFT_OUT);
        Probe.is(-23, 115, 45322, 45292);
        Probe.is(-22, 115, 45322.9, 45292.9, free);
        Probe.is(1, 115, 45292, 45292);
        Probe.is(0, 115, 45297, 45298);
        Probe.is(0, 115, 45298, 45297);
        Probe.is(0, 115, 45293, 45293, 45293);
        Probe.is(1, 115, 45293, 45293, "45293");
        Probe.is(1, 115, 45293, 45293, Probe.grid(1, 4, Probe.NA, true, -7, 9E299));
        Probe.is(22, 115, 45292, 45322, Probe.grid(1, 3, Probe.NA, 45293, Probe.EMPTY));
        Probe.is(5, 115, 2, 6, Probe.grid(1, 5, Probe.DIV0, Probe.VALUE, Probe.REF, Probe.NAME,
                Probe.NUM));
        Probe.is(Probe.NUM, 115, 45292, LAST + 1, Probe.NA);
        Probe.is(Probe.NUM, 115, -1, Probe.NA);
        Probe.is(Probe.NA, 115, 1, Probe.NA);
        Probe.is(0, 115, 0, 1);
        Probe.is(45307, 116, 45292, 10, 45293);
        Probe.is(45306, 116, 45292, 10);
        Probe.is(45292, 116, 45292, 0, 45292);
        Probe.is(45297, 116, 45297.9, Probe.LEFT_OUT);
        Probe.is(45299, 116, 45297, 1);
        Probe.is(45296, 116, 45297, -1);
        Probe.is(45296, 116, 45299, -1);
        Probe.is(45295, 116, 45299, -1, 45296);
        Probe.is(45300, 116, 45296, 1, Probe.grid(1, 3, 45299, 45298, Probe.NUM));
        Probe.is(Probe.NUM, 116, 1, -1);
        Probe.is(Probe.NUM, 116, 2, -1);
        Probe.is(2, 116, 0, 1);
        Probe.is(Probe.NUM, 116, LAST, 1);
        Probe.is(LAST, 116, LAST - 1, 1);
        Probe.is(139999, 116, 0, 100000);
        Probe.is(Probe.NUM, 116, 0, 100001);
        Probe.is(Probe.NUM, 116, LAST, -100001);
        Probe.is(LAST - 140000, 116, LAST, -100000);
        Probe.is(Probe.NA, 116, 1, Probe.NA);
        Probe.is(Probe.NUM, 116, -1, Probe.NA);
    }

    private static int day(LocalDate date) {
        return (int) ChronoUnit.DAYS.between(ORIGIN, date);
    }

    private static LocalDate dateOf(int day) {
        return ORIGIN.plusDays(day);
    }

    private static double number(WordFunctions x, int function, double... numbers) {
        for (double n : numbers) {
            x.argument(1, 1);
            x.put(0, 1, n);
        }
        int kind = x.call(function);
        return kind == 1 ? x.value() : kind == 4 ? -1000000.0 - x.value() : Double.NaN;
    }

    private static void everyDay() {
        int wrong = 0;
        WordFunctions x = new WordFunctions();
        LocalDate date = ORIGIN;
        for (int day = 0; day <= LAST; day++) {
            if (day % 28 == 0) {
                x = new WordFunctions();
            }
            boolean right = number(x, 103, day) == date.getYear()
                    && number(x, 104, day) == date.getMonthValue()
                    && number(x, 105, day) == date.getDayOfMonth()
                    && number(x, 109, day, 2.0) == date.getDayOfWeek().getValue();
            wrong += right ? 0 : 1;
            date = date.plusDays(1);
        }
        Probe.same("every day", wrong, 0);
    }

    private static void randomDates() {
        Random random = new Random(1);
        for (int k = 0; k < 20000; k++) {
            WordFunctions x = new WordFunctions();
            int y = random.nextInt(10000);
            int m = random.nextInt(60) - 30;
            int d = random.nextInt(k % 10 == 0 ? 200001 : 201) - (k % 10 == 0 ? 100000 : 100);
            LocalDate date = LocalDate.of(y < 1900 ? y + 1900 : y, 1, 1).plusMonths(m - 1)
                    .plusDays(d - 1);
            Probe.same("DATE " + y + " " + m + " " + d, number(x, 101, y, m, d), orNum(date));
            int day = random.nextInt(LAST + 1);
            int n = random.nextInt(k % 10 == 0 ? 200001 : 401) - (k % 10 == 0 ? 100000 : 200);
            LocalDate later = dateOf(day).plusMonths(n);
            Probe.same("EDATE " + day + " " + n, number(x, 111, day, n), orNum(later));
            Probe.same("EOMONTH " + day + " " + n, number(x, 112, day, n),
                    orNum(YearMonth.from(later).atEndOfMonth()));
            for (int start = 1; start <= 2; start++) {
                Probe.same("WEEKNUM " + day, number(x, 110, day, start),
                        weekNumber(day, start == 1 ? DayOfWeek.SUNDAY : DayOfWeek.MONDAY));
            }
        }
    }

    private static double orNum(LocalDate date) {
        int day = day(date);
        return day >= 0 && day <= LAST ? day : -1000006.0;
    }

    private static double weekNumber(int day, DayOfWeek start) {
        LocalDate date = dateOf(day);
        int number = 1;
        for (LocalDate d = LocalDate.of(date.getYear(), 1, 2); !d.isAfter(date); d = d.plusDays(1)) {
            number += d.getDayOfWeek() == start ? 1 : 0;
        }
        return number;
    }

    private static void randomDifferences() {
        Random random = new Random(2);
        String[] units = {"Y", "M", "D", "YM", "MD", "YD"};
        for (int k = 0; k < 3000; k++) {
            int a = random.nextInt(60000);
            int b = Math.min(LAST, a + random.nextInt(k % 3 == 0 ? 6000 : 800));
            int months = 0;
            while (over(a, months + 1) <= b) {
                months++;
            }
            int[] due = {months / 12, months, b - a, months % 12, b - over(a, months),
                b - over(a, months / 12 * 12)};
            for (int u = 0; u < units.length; u++) {
                Probe.is(due[u], 114, a, b, units[u]);
            }
        }
    }

    private static int over(int a, int months) {
        LocalDate date = dateOf(a);
        YearMonth month = YearMonth.from(date).plusMonths(months);
        return day(month.isValidDay(date.getDayOfMonth())
                ? month.atDay(date.getDayOfMonth()) : month.plusMonths(1).atDay(1));
    }

    private static boolean isWorkday(int day, Set<Integer> free) {
        DayOfWeek week = dateOf(day).getDayOfWeek();
        return week != DayOfWeek.SATURDAY && week != DayOfWeek.SUNDAY && !free.contains(day);
    }

    private static void randomWorkdays() {
        Random random = new Random(3);
        for (int k = 0; k < 3000; k++) {
            int base = k % 50 == 0 ? 0 : k % 50 == 1 ? LAST - 60 : random.nextInt(LAST - 60);
            Object[] values = new Object[1 + random.nextInt(40)];
            Set<Integer> free = new TreeSet<>();
            for (int v = 0; v < values.length; v++) {
                int day = base + random.nextInt(60);
                free.add(day);
                values[v] = day + random.nextInt(4) / 4.0;
            }
            Probe.Grid grid = Probe.grid(1, values.length, values);
            int a = base + random.nextInt(60);
            int b = base + random.nextInt(60);
            int many = 0;
            for (int day = Math.min(a, b); day <= Math.max(a, b); day++) {
                many += isWorkday(day, free) ? 1 : 0;
            }
            Probe.is(a <= b ? many : -many, 115, a, b, grid);
            int n = random.nextInt(61) - 30;
            int at = a;
            for (int left = Math.abs(n); left > 0; left -= isWorkday(at, free) ? 1 : 0) {
                at += n > 0 ? 1 : -1;
            }
            Probe.is(at >= 0 && at <= LAST ? at : Probe.NUM, 116, a, n, grid);
        }
    }
}
